set_option maxHeartbeats 4000000 in
set_option maxRecDepth 100000 in
theorem c_K_read (l : Launch) {D : va_G} {c : Nat → ClassId} {sz : Nat} {ad : gN → Nat} {k : Nat} {I J : gI} {P : gP} {LG : Option Nat} {LP : Option (Nat × Nat)} {x y : Int32}  : Met l yK_read wK_read { frames := 2, cells := 0, slots := 0, locals := 41 } (gPre D c sz [.ref (ad (0, 0, 0)), .int x, .int y] (ad, k, I, J, P, LG, LP)) (va_Ql (fun r u => r = (cRead I x y).1 ∧ u = (ad, k, (cRead I x y).2, J, P, LG, LP)) (gB D c sz) (gA sz)) 0 0 (gA sz) := by
  refine Met.ofW (cc := cK_read) (maxL := 3) (ret := (some .long)) (by decide) rfl ?_
  intro p e s m args below meth cd s₁ B hml hv
  obtain ⟨rfl, hK, hH⟩ := hv
  have hx := B.exec
  have hb := B.bytes
  have hr := B.returns
  have hts := atoms_spec (ws := wK_read) B.pre
  have hw : ∀ w ∈ gWd, w.before _ s = true := fun w h => hts w (List.mem_cons_of_mem _ h)
  have hown : s.vm.findClass RK = some m.cls := findClass_of_methodNamed B.named
  have hlk := B.notSynchronized
  have hS : va_S (gA sz) s.heap s.heap [] := va_S.rf
  have hH : gW D c sz ad k I J P LG LP s.heap := hH
  have hl := lv_entry ([.ref (ad (0, 0, 0)), .int x, .int y]) (n := 3) (Nat.le_of_ble_eq_true rfl)
  rw [lg_entry_eq]
  generalize (lg_sl ([.ref (ad (0, 0, 0)), .int x, .int y]) ++ List.replicate (3 - (lg_sl ([.ref (ad (0, 0, 0)), .int x, .int y])).length) Slot.unset).toArray = ls at hl ⊢
  have hl : lv_has ls 3 [(0, .ref (ad (0, 0, 0))), (1, .int x), (2, .int y)] := hl
  refine lv_iload_n hx hb dK_read_0 rfl (lv_at hl 1 rfl) ?_
  refine s_ciE (va_runS (As := [.int _]) (rest := []) ⟨hx, hb, hml, hown, hw⟩ (c_K_isPage l  ) (cwS 1 hw (gd_S (gwd_1 (List.mem_of_getElem? (i := 13) rfl)) (gwd_1 (List.mem_of_getElem? (i := 14) rfl)) (gwd_0 (List.mem_of_getElem? (i := 1) rfl)) (gwd_1 (List.mem_of_getElem? (i := 15) rfl))) rfl rfl rfl (by decide +kernel) ⟨Nat.le_of_ble_eq_true rfl, Nat.le_of_ble_eq_true rfl⟩) (gPre.S hK hH) rfl rfl hl.1 rfl (lv_room (Nat.le_of_ble_eq_true rfl)) dK_read_1 ⟨Nat.zero_le _, Nat.zero_le _⟩) hS (fun H locs hH hS => ?_)
  refine s_ifeq hx hb dK_read_4 rfl (fun h_1 => ?_) (fun h_1 => ?_)
  · skip
    refine lv_ldc2 (v := 1099511627776) hx hb hown (hw _ (gwd_1 (List.mem_of_getElem? (i := 26) rfl))) dK_read_27 ?_
    exact r_l hx hb hr hlk hK hH hS dK_read_30 (by rw [cRead, if_neg (fun q => h_1 q.1)]; exact ⟨rfl, rfl⟩)
  · skip
    obtain ⟨j, hj, rfl⟩ := isP_ix h_1
    have hi : ix (nI j) = j := ix_nI (by omega)
    refine lv_iload_n hx hb dK_read_7 rfl (lv_at hl 2 rfl) ?_
    refine s_ciE (va_runS (As := [.int _]) (rest := []) ⟨hx, hb, hml, hown, hw⟩ (c_K_isWord l  ) (cwS 1 hw (gd_S (gwd_1 (List.mem_of_getElem? (i := 16) rfl)) (gwd_1 (List.mem_of_getElem? (i := 17) rfl)) (gwd_0 (List.mem_of_getElem? (i := 1) rfl)) (gwd_1 (List.mem_of_getElem? (i := 18) rfl))) rfl rfl rfl (by decide +kernel) ⟨Nat.le_of_ble_eq_true rfl, Nat.le_of_ble_eq_true rfl⟩) (gPre.S hK hH) rfl rfl hl.1 rfl (lv_room (Nat.le_of_ble_eq_true rfl)) dK_read_8 ⟨Nat.zero_le _, Nat.zero_le _⟩) hS (fun H locs hH hS => ?_)
    refine s_ifeq hx hb dK_read_11 rfl (fun h_2 => ?_) (fun h_2 => ?_)
    · skip
      refine lv_ldc2 (v := 1099511627776) hx hb hown (hw _ (gwd_1 (List.mem_of_getElem? (i := 26) rfl))) dK_read_27 ?_
      exact r_l hx hb hr hlk hK hH hS dK_read_30 (by rw [cRead, if_neg (fun q => h_2 q.2)]; exact ⟨rfl, rfl⟩)
    · skip
      obtain ⟨i4, hi4, rfl⟩ := is4_ix h_2
      have hi2 : ix (nI i4) = i4 := ix_nI (by omega)
      refine lv_aload_n hx hb dK_read_14 rfl (lv_at hl 0 rfl) ?_
      refine lv_aload_n hx hb dK_read_15 rfl (lv_at hl 0 rfl) ?_
      refine s_get hx hb hw inK hown hK hH 0 (by decide) (hw _ (gwd_0 (List.mem_of_getElem? (i := 41) rfl))) (by first | exact ⟨rfl, rfl⟩ | exact ⟨by assumption, rfl⟩ | exact ⟨by assumption, by assumption⟩ | exact ⟨by omega, rfl⟩ | exact ⟨by omega, by omega⟩ | exact ⟨by decide, rfl⟩) rfl rfl rfl rfl dK_read_16 ?_
      refine lv_iload_n hx hb dK_read_19 rfl (lv_at hl 1 rfl) ?_
      refine s_aaP hx hb hK hH _ (by first | rfl | assumption) (by first | assumption | decide | omega) dK_read_20 ?_
      refine s_ciE (va_runV (As := [.ref _]) (rest := []) ⟨hx, hb, hml, hown, hw⟩ (c_K_hostReaches l  (by assumption)) (cwV 1 hw (gd_V (gwd_1 (List.mem_of_getElem? (i := 19) rfl)) (gwd_1 (List.mem_of_getElem? (i := 20) rfl)) (gwd_9 (List.mem_of_getElem? (i := 12) rfl)) (gwd_0 (List.mem_of_getElem? (i := 1) rfl)) (gwd_1 (List.mem_of_getElem? (i := 21) rfl))) rfl rfl rfl (by decide +kernel) ⟨Nat.le_of_ble_eq_true rfl, Nat.le_of_ble_eq_true rfl⟩) (gPre.V (n := (0, 0, 0)) hK hH (by first | exact ⟨rfl, rfl⟩ | exact ⟨by assumption, rfl⟩ | exact ⟨by assumption, by assumption⟩ | exact ⟨by omega, rfl⟩ | exact ⟨by omega, by omega⟩ | exact ⟨by decide, rfl⟩) rfl rfl) rfl rfl hl.1 rfl (lv_room (Nat.le_of_ble_eq_true rfl)) dK_read_21 ⟨Nat.zero_le _, Nat.zero_le _⟩) hS (fun H locs hH hS => ?_)
      refine s_ifne hx hb dK_read_24 rfl (fun h_3 => ?_) (fun h_3 => ?_)
      · skip
        refine lv_aload_n hx hb dK_read_31 rfl (lv_at hl 0 rfl) ?_
        refine s_get hx hb hw inK hown hK hH 0 (by decide) (hw _ (gwd_0 (List.mem_of_getElem? (i := 41) rfl))) (by first | exact ⟨rfl, rfl⟩ | exact ⟨by assumption, rfl⟩ | exact ⟨by assumption, by assumption⟩ | exact ⟨by omega, rfl⟩ | exact ⟨by omega, by omega⟩ | exact ⟨by decide, rfl⟩) rfl rfl rfl rfl dK_read_32 ?_
        refine lv_iload_n hx hb dK_read_35 rfl (lv_at hl 1 rfl) ?_
        refine s_aaP hx hb hK hH _ (by first | rfl | assumption) (by first | assumption | decide | omega) dK_read_36 ?_
        refine s_get hx hb hw inP hown hK hH 0 (by decide) (hw _ (gwd_0 (List.mem_of_getElem? (i := 20) rfl))) (by first | exact ⟨rfl, rfl⟩ | exact ⟨by assumption, rfl⟩ | exact ⟨by assumption, by assumption⟩ | exact ⟨by omega, rfl⟩ | exact ⟨by omega, by omega⟩ | exact ⟨by decide, rfl⟩) rfl rfl rfl rfl dK_read_37 ?_
        refine lv_iload_n hx hb dK_read_40 rfl (lv_at hl 2 rfl) ?_
        refine s_iald hx hb hK hH (by first | exact ⟨rfl, rfl⟩ | exact ⟨by assumption, rfl⟩ | exact ⟨by assumption, by assumption⟩ | exact ⟨by omega, rfl⟩ | exact ⟨by omega, by omega⟩ | exact ⟨by decide, rfl⟩) rfl _ (by first | rfl | assumption) (by first | assumption | decide | omega) (by decide) dK_read_41 ?_
        refine lv_i2l hx hb dK_read_42 rfl ?_
        exact r_l hx hb hr hlk hK hH hS dK_read_43 (by rw [cRead, if_pos ⟨h_1, h_2⟩, hi]; first | (rw [if_pos h_3]; exact ⟨rfl, rfl⟩) | (rw [if_neg h_3]; exact ⟨rfl, rfl⟩) | (rw [hi2, if_pos h_3]; exact ⟨rfl, rfl⟩))
      · skip
        refine lv_ldc2 (v := 1099511627776) hx hb hown (hw _ (gwd_1 (List.mem_of_getElem? (i := 26) rfl))) dK_read_27 ?_
        exact r_l hx hb hr hlk hK hH hS dK_read_30 (by rw [cRead, if_pos ⟨h_1, h_2⟩, hi]; first | (rw [if_pos h_3]; exact ⟨rfl, rfl⟩) | (rw [if_neg h_3]; exact ⟨rfl, rfl⟩) | (rw [hi2, if_pos h_3]; exact ⟨rfl, rfl⟩))
set_option maxHeartbeats 4000000 in
set_option maxRecDepth 100000 in
theorem c_K_write (l : Launch) {D : va_G} {c : Nat → ClassId} {sz : Nat} {ad : gN → Nat} {k : Nat} {I J : gI} {P : gP} {LG : Option Nat} {LP : Option (Nat × Nat)} {x y z : Int32}  : Met l yK_write wK_write { frames := 2, cells := 0, slots := 0, locals := 41 } (gPre D c sz [.ref (ad (0, 0, 0)), .int x, .int y, .int z] (ad, k, I, J, P, LG, LP)) (va_Qi (fun r u => r = (cWrite I x y z).1 ∧ u = (ad, k, (cWrite I x y z).2, J, P, LG, LP)) (gB D c sz) (gA sz)) 0 0 (gA sz) := by
  refine Met.ofW (cc := cK_write) (maxL := 4) (ret := (some .boolean)) (by decide) rfl ?_
  intro p e s m args below meth cd s₁ B hml hv
  obtain ⟨rfl, hK, hH⟩ := hv
  have hx := B.exec
  have hb := B.bytes
  have hr := B.returns
  have hts := atoms_spec (ws := wK_write) B.pre
  have hw : ∀ w ∈ gWd, w.before _ s = true := fun w h => hts w (List.mem_cons_of_mem _ h)
  have hown : s.vm.findClass RK = some m.cls := findClass_of_methodNamed B.named
  have hlk := B.notSynchronized
  have hS : va_S (gA sz) s.heap s.heap [] := va_S.rf
  have hH : gW D c sz ad k I J P LG LP s.heap := hH
  have hl := lv_entry ([.ref (ad (0, 0, 0)), .int x, .int y, .int z]) (n := 4) (Nat.le_of_ble_eq_true rfl)
  rw [lg_entry_eq]
  generalize (lg_sl ([.ref (ad (0, 0, 0)), .int x, .int y, .int z]) ++ List.replicate (4 - (lg_sl ([.ref (ad (0, 0, 0)), .int x, .int y, .int z])).length) Slot.unset).toArray = ls at hl ⊢
  have hl : lv_has ls 4 [(0, .ref (ad (0, 0, 0))), (1, .int x), (2, .int y), (3, .int z)] := hl
  refine lv_iload_n hx hb dK_write_0 rfl (lv_at hl 1 rfl) ?_
  refine s_ciE (va_runS (As := [.int _]) (rest := []) ⟨hx, hb, hml, hown, hw⟩ (c_K_isPage l  ) (cwS 1 hw (gd_S (gwd_1 (List.mem_of_getElem? (i := 13) rfl)) (gwd_1 (List.mem_of_getElem? (i := 14) rfl)) (gwd_0 (List.mem_of_getElem? (i := 1) rfl)) (gwd_1 (List.mem_of_getElem? (i := 15) rfl))) rfl rfl rfl (by decide +kernel) ⟨Nat.le_of_ble_eq_true rfl, Nat.le_of_ble_eq_true rfl⟩) (gPre.S hK hH) rfl rfl hl.1 rfl (lv_room (Nat.le_of_ble_eq_true rfl)) dK_write_1 ⟨Nat.zero_le _, Nat.zero_le _⟩) hS (fun H locs hH hS => ?_)
  refine s_ifeq hx hb dK_write_4 rfl (fun h_1 => ?_) (fun h_1 => ?_)
  · skip
    refine lv_iconst (v := 0) hx hb dK_write_27 (by decide) ?_
    exact r_z hx hb hr hlk hK hH hS dK_write_28 (by first | exact Or.inl rfl | exact Or.inr rfl | exact bz_01 _ | assumption) (by rw [cWrite, if_neg (fun q => h_1 q.1)]; exact ⟨rfl, rfl⟩)
  · skip
    obtain ⟨j, hj, rfl⟩ := isP_ix h_1
    have hi : ix (nI j) = j := ix_nI (by omega)
    refine lv_iload_n hx hb dK_write_7 rfl (lv_at hl 2 rfl) ?_
    refine s_ciE (va_runS (As := [.int _]) (rest := []) ⟨hx, hb, hml, hown, hw⟩ (c_K_isWord l  ) (cwS 1 hw (gd_S (gwd_1 (List.mem_of_getElem? (i := 16) rfl)) (gwd_1 (List.mem_of_getElem? (i := 17) rfl)) (gwd_0 (List.mem_of_getElem? (i := 1) rfl)) (gwd_1 (List.mem_of_getElem? (i := 18) rfl))) rfl rfl rfl (by decide +kernel) ⟨Nat.le_of_ble_eq_true rfl, Nat.le_of_ble_eq_true rfl⟩) (gPre.S hK hH) rfl rfl hl.1 rfl (lv_room (Nat.le_of_ble_eq_true rfl)) dK_write_8 ⟨Nat.zero_le _, Nat.zero_le _⟩) hS (fun H locs hH hS => ?_)
    refine s_ifeq hx hb dK_write_11 rfl (fun h_2 => ?_) (fun h_2 => ?_)
    · skip
      refine lv_iconst (v := 0) hx hb dK_write_27 (by decide) ?_
      exact r_z hx hb hr hlk hK hH hS dK_write_28 (by first | exact Or.inl rfl | exact Or.inr rfl | exact bz_01 _ | assumption) (by rw [cWrite, if_neg (fun q => h_2 q.2)]; exact ⟨rfl, rfl⟩)
    · skip
      obtain ⟨i4, hi4, rfl⟩ := is4_ix h_2
      have hi2 : ix (nI i4) = i4 := ix_nI (by omega)
      refine lv_aload_n hx hb dK_write_14 rfl (lv_at hl 0 rfl) ?_
      refine lv_aload_n hx hb dK_write_15 rfl (lv_at hl 0 rfl) ?_
      refine s_get hx hb hw inK hown hK hH 0 (by decide) (hw _ (gwd_0 (List.mem_of_getElem? (i := 41) rfl))) (by first | exact ⟨rfl, rfl⟩ | exact ⟨by assumption, rfl⟩ | exact ⟨by assumption, by assumption⟩ | exact ⟨by omega, rfl⟩ | exact ⟨by omega, by omega⟩ | exact ⟨by decide, rfl⟩) rfl rfl rfl rfl dK_write_16 ?_
      refine lv_iload_n hx hb dK_write_19 rfl (lv_at hl 1 rfl) ?_
      refine s_aaP hx hb hK hH _ (by first | rfl | assumption) (by first | assumption | decide | omega) dK_write_20 ?_
      refine s_ciE (va_runV (As := [.ref _]) (rest := []) ⟨hx, hb, hml, hown, hw⟩ (c_K_hostReaches l  (by assumption)) (cwV 1 hw (gd_V (gwd_1 (List.mem_of_getElem? (i := 19) rfl)) (gwd_1 (List.mem_of_getElem? (i := 20) rfl)) (gwd_9 (List.mem_of_getElem? (i := 12) rfl)) (gwd_0 (List.mem_of_getElem? (i := 1) rfl)) (gwd_1 (List.mem_of_getElem? (i := 21) rfl))) rfl rfl rfl (by decide +kernel) ⟨Nat.le_of_ble_eq_true rfl, Nat.le_of_ble_eq_true rfl⟩) (gPre.V (n := (0, 0, 0)) hK hH (by first | exact ⟨rfl, rfl⟩ | exact ⟨by assumption, rfl⟩ | exact ⟨by assumption, by assumption⟩ | exact ⟨by omega, rfl⟩ | exact ⟨by omega, by omega⟩ | exact ⟨by decide, rfl⟩) rfl rfl) rfl rfl hl.1 rfl (lv_room (Nat.le_of_ble_eq_true rfl)) dK_write_21 ⟨Nat.zero_le _, Nat.zero_le _⟩) hS (fun H locs hH hS => ?_)
      refine s_ifne hx hb dK_write_24 rfl (fun h_3 => ?_) (fun h_3 => ?_)
      · skip
        refine lv_aload_n hx hb dK_write_29 rfl (lv_at hl 0 rfl) ?_
        refine s_get hx hb hw inK hown hK hH 0 (by decide) (hw _ (gwd_0 (List.mem_of_getElem? (i := 41) rfl))) (by first | exact ⟨rfl, rfl⟩ | exact ⟨by assumption, rfl⟩ | exact ⟨by assumption, by assumption⟩ | exact ⟨by omega, rfl⟩ | exact ⟨by omega, by omega⟩ | exact ⟨by decide, rfl⟩) rfl rfl rfl rfl dK_write_30 ?_
        refine lv_iload_n hx hb dK_write_33 rfl (lv_at hl 1 rfl) ?_
        refine s_aaP hx hb hK hH _ (by first | rfl | assumption) (by first | assumption | decide | omega) dK_write_34 ?_
        refine s_get hx hb hw inP hown hK hH 0 (by decide) (hw _ (gwd_0 (List.mem_of_getElem? (i := 20) rfl))) (by first | exact ⟨rfl, rfl⟩ | exact ⟨by assumption, rfl⟩ | exact ⟨by assumption, by assumption⟩ | exact ⟨by omega, rfl⟩ | exact ⟨by omega, by omega⟩ | exact ⟨by decide, rfl⟩) rfl rfl rfl rfl dK_write_35 ?_
        refine lv_iload_n hx hb dK_write_38 rfl (lv_at hl 2 rfl) ?_
        refine lv_iload_n hx hb dK_write_39 rfl (lv_at hl 3 rfl) ?_
        refine s_iast hx hb hK hH hS (by first | exact ⟨rfl, rfl⟩ | exact ⟨by assumption, rfl⟩ | exact ⟨by assumption, by assumption⟩ | exact ⟨by omega, rfl⟩ | exact ⟨by omega, by omega⟩ | exact ⟨by decide, rfl⟩) rfl _ (by first | rfl | assumption) (by first | assumption | decide | omega) (by decide) rfl dK_write_40 (fun H locs hH hS => ?_)
        refine lv_iconst (v := 1) hx hb dK_write_41 (by decide) ?_
        exact r_z hx hb hr hlk hK hH hS dK_write_42 (by first | exact Or.inl rfl | exact Or.inr rfl | exact bz_01 _ | assumption) (by rw [cWrite, if_pos ⟨h_1, h_2⟩, hi]; first | (rw [if_pos h_3]; exact ⟨rfl, rfl⟩) | (rw [if_neg h_3]; exact ⟨rfl, rfl⟩) | (rw [hi2, if_pos h_3]; exact ⟨rfl, rfl⟩))
      · skip
        refine lv_iconst (v := 0) hx hb dK_write_27 (by decide) ?_
        exact r_z hx hb hr hlk hK hH hS dK_write_28 (by first | exact Or.inl rfl | exact Or.inr rfl | exact bz_01 _ | assumption) (by rw [cWrite, if_pos ⟨h_1, h_2⟩, hi]; first | (rw [if_pos h_3]; exact ⟨rfl, rfl⟩) | (rw [if_neg h_3]; exact ⟨rfl, rfl⟩) | (rw [hi2, if_pos h_3]; exact ⟨rfl, rfl⟩))
set_option maxHeartbeats 4000000 in
set_option maxRecDepth 100000 in
theorem c_K_faults (l : Launch) {D : va_G} {c : Nat → ClassId} {sz : Nat} {ad : gN → Nat} {k : Nat} {I J : gI} {P : gP} {LG : Option Nat} {LP : Option (Nat × Nat)}   : Met l yK_faults wK_faults { frames := 0, cells := 0, slots := 0, locals := 0 } (gPre D c sz [.ref (ad (0, 0, 0))] (ad, k, I, J, P, LG, LP)) (va_Qi (fun r u => r = I (0, 0, 0) 4 ∧ u = (ad, k, I, J, P, LG, LP)) (gB D c sz) (gA sz)) 0 0 (gA sz) := by
  refine Met.ofW (cc := cK_faults) (maxL := 1) (ret := (some .int)) (by decide) rfl ?_
  intro p e s m args below meth cd s₁ B hml hv
  obtain ⟨rfl, hK, hH⟩ := hv
  have hx := B.exec
  have hb := B.bytes
  have hr := B.returns
  have hts := atoms_spec (ws := wK_faults) B.pre
  have hw : ∀ w ∈ gWd, w.before _ s = true := fun w h => hts w (List.mem_cons_of_mem _ h)
  have hown : s.vm.findClass RK = some m.cls := findClass_of_methodNamed B.named
  have hlk := B.notSynchronized
  have hS : va_S (gA sz) s.heap s.heap [] := va_S.rf
  have hH : gW D c sz ad k I J P LG LP s.heap := hH
  have hl := lv_entry ([.ref (ad (0, 0, 0))]) (n := 1) (Nat.le_of_ble_eq_true rfl)
  rw [lg_entry_eq]
  generalize (lg_sl ([.ref (ad (0, 0, 0))]) ++ List.replicate (1 - (lg_sl ([.ref (ad (0, 0, 0))])).length) Slot.unset).toArray = ls at hl ⊢
  have hl : lv_has ls 1 [(0, .ref (ad (0, 0, 0)))] := hl
  refine lv_aload_n hx hb dK_faults_0 rfl (lv_at hl 0 rfl) ?_
  refine s_get hx hb hw inK hown hK hH 4 (by decide) (hw _ (gwd_0 (List.mem_of_getElem? (i := 45) rfl))) (by first | exact ⟨rfl, rfl⟩ | exact ⟨by assumption, rfl⟩ | exact ⟨by assumption, by assumption⟩ | exact ⟨by omega, rfl⟩ | exact ⟨by omega, by omega⟩ | exact ⟨by decide, rfl⟩) rfl rfl rfl rfl dK_faults_1 ?_
  exact r_i hx hb hr hlk hK hH hS dK_faults_4 (⟨rfl, rfl⟩)
set_option maxHeartbeats 4000000 in
set_option maxRecDepth 100000 in
theorem c_K_info (l : Launch) {D : va_G} {c : Nat → ClassId} {sz : Nat} {ad : gN → Nat} {k : Nat} {I J : gI} {P : gP} {LG : Option Nat} {LP : Option (Nat × Nat)}   : Met l yK_info wK_info { frames := 0, cells := 0, slots := 0, locals := 0 } (gPre D c sz [.ref (ad (0, 0, 0))] (ad, k, I, J, P, LG, LP)) (va_Qi (fun r u => r = I (0, 0, 0) 5 ∧ u = (ad, k, I, J, P, LG, LP)) (gB D c sz) (gA sz)) 0 0 (gA sz) := by
  refine Met.ofW (cc := cK_info) (maxL := 1) (ret := (some .int)) (by decide) rfl ?_
  intro p e s m args below meth cd s₁ B hml hv
  obtain ⟨rfl, hK, hH⟩ := hv
  have hx := B.exec
  have hb := B.bytes
  have hr := B.returns
  have hts := atoms_spec (ws := wK_info) B.pre
  have hw : ∀ w ∈ gWd, w.before _ s = true := fun w h => hts w (List.mem_cons_of_mem _ h)
  have hown : s.vm.findClass RK = some m.cls := findClass_of_methodNamed B.named
  have hlk := B.notSynchronized
  have hS : va_S (gA sz) s.heap s.heap [] := va_S.rf
  have hH : gW D c sz ad k I J P LG LP s.heap := hH
  have hl := lv_entry ([.ref (ad (0, 0, 0))]) (n := 1) (Nat.le_of_ble_eq_true rfl)
  rw [lg_entry_eq]
  generalize (lg_sl ([.ref (ad (0, 0, 0))]) ++ List.replicate (1 - (lg_sl ([.ref (ad (0, 0, 0))])).length) Slot.unset).toArray = ls at hl ⊢
  have hl : lv_has ls 1 [(0, .ref (ad (0, 0, 0)))] := hl
  refine lv_aload_n hx hb dK_info_0 rfl (lv_at hl 0 rfl) ?_
  refine s_get hx hb hw inK hown hK hH 5 (by decide) (hw _ (gwd_0 (List.mem_of_getElem? (i := 46) rfl))) (by first | exact ⟨rfl, rfl⟩ | exact ⟨by assumption, rfl⟩ | exact ⟨by assumption, by assumption⟩ | exact ⟨by omega, rfl⟩ | exact ⟨by omega, by omega⟩ | exact ⟨by decide, rfl⟩) rfl rfl rfl rfl dK_info_1 ?_
  exact r_i hx hb hr hlk hK hH hS dK_info_4 (⟨rfl, rfl⟩)
set_option maxHeartbeats 4000000 in
set_option maxRecDepth 100000 in
theorem c_K_feed (l : Launch) {D : va_G} {c : Nat → ClassId} {sz : Nat} {ad : gN → Nat} {k : Nat} {I J : gI} {P : gP} {LG : Option Nat} {LP : Option (Nat × Nat)} {a x : Int32} (hPl : ∀ g a q, P g a = some q → q < 24) : Met l yK_feed wK_feed { frames := 4, cells := 0, slots := 0, locals := 86 } (gPre D c sz [.ref (ad (0, 0, 0)), .int a, .int x] (ad, k, I, J, P, LG, LP)) (va_Qi (fun r u => r = (cFeed I k P a x).1 ∧ u = (ad, k, (cFeed I k P a x).2, J, P, LG, LP)) (gB D c sz) (gA sz)) 0 0 (gA sz) := by
  refine Met.ofW (cc := cK_feed) (maxL := 4) (ret := (some .int)) (by decide) rfl ?_
  intro p e s m args below meth cd s₁ B hml hv
  obtain ⟨rfl, hK, hH⟩ := hv
  have hx := B.exec
  have hb := B.bytes
  have hr := B.returns
  have hts := atoms_spec (ws := wK_feed) B.pre
  have hw : ∀ w ∈ gWd, w.before _ s = true := fun w h => hts w (List.mem_cons_of_mem _ h)
  have hown : s.vm.findClass RK = some m.cls := findClass_of_methodNamed B.named
  have hlk := B.notSynchronized
  have hS : va_S (gA sz) s.heap s.heap [] := va_S.rf
  have hH : gW D c sz ad k I J P LG LP s.heap := hH
  have hl := lv_entry ([.ref (ad (0, 0, 0)), .int a, .int x]) (n := 4) (Nat.le_of_ble_eq_true rfl)
  rw [lg_entry_eq]
  generalize (lg_sl ([.ref (ad (0, 0, 0)), .int a, .int x]) ++ List.replicate (4 - (lg_sl ([.ref (ad (0, 0, 0)), .int a, .int x])).length) Slot.unset).toArray = ls at hl ⊢
  have hl : lv_has ls 4 [(0, .ref (ad (0, 0, 0))), (1, .int a), (2, .int x)] := hl
  refine lv_aload_n hx hb dK_feed_0 rfl (lv_at hl 0 rfl) ?_
  refine lv_iload_n hx hb dK_feed_1 rfl (lv_at hl 1 rfl) ?_
  refine s_cqE (va_runV (As := [.int _]) (rest := []) ⟨hx, hb, hml, hown, hw⟩ (c_K_livingGuest l  ) (cwV 1 hw (gd_V (gwd_3 (List.mem_of_getElem? (i := 3) rfl)) (gwd_3 (List.mem_of_getElem? (i := 4) rfl)) (gwd_9 (List.mem_of_getElem? (i := 14) rfl)) (gwd_0 (List.mem_of_getElem? (i := 1) rfl)) (gwd_3 (List.mem_of_getElem? (i := 5) rfl))) rfl rfl rfl (by decide +kernel) ⟨Nat.le_of_ble_eq_true rfl, Nat.le_of_ble_eq_true rfl⟩) (gPre.V (n := (0, 0, 0)) hK hH (by first | exact ⟨rfl, rfl⟩ | exact ⟨by assumption, rfl⟩ | exact ⟨by assumption, by assumption⟩ | exact ⟨by omega, rfl⟩ | exact ⟨by omega, by omega⟩ | exact ⟨by decide, rfl⟩) rfl rfl) rfl rfl hl.1 rfl (lv_room (Nat.le_of_ble_eq_true rfl)) dK_feed_2 ⟨Nat.zero_le _, Nat.zero_le _⟩) hS (fun H locs h_1 hH hS => ?_) (fun H locs g_2 h_1 hH hS => ?_)
  · skip
    refine lv_astore_nN hx hb dK_feed_5 rfl hl (by decide) rfl (fun ls hl => ?_)
    have hl : lv_has ls 4 [(3, .null), (0, .ref _), (1, .int _), (2, .int _)] := hl
    refine lv_aload_nN hx hb dK_feed_6 rfl (lv_at hl 0 rfl) ?_
    refine lv_ifnonnullN hx hb dK_feed_7 ?_
    refine lv_iconst (v := -1) hx hb dK_feed_10 (by decide) ?_
    exact r_i hx hb hr hlk hK hH hS dK_feed_11 (by simp only [cFeed, h_1]; exact ⟨trivial, trivial⟩)
  · skip
    have hlt_g_2 : g_2 < k := sLiv_lt h_1
    refine lv_astore_n hx hb dK_feed_5 rfl hl (by decide) rfl (fun ls hl => ?_)
    have hl : lv_has ls 4 [(3, .ref _), (0, .ref _), (1, .int _), (2, .int _)] := hl
    refine lv_aload_n hx hb dK_feed_6 rfl (lv_at hl 0 rfl) ?_
    refine lv_ifnonnull hx hb dK_feed_7 rfl ?_
    refine lv_aload_n hx hb dK_feed_12 rfl (lv_at hl 1 rfl) ?_
    refine lv_iload_n hx hb dK_feed_13 rfl (lv_at hl 3 rfl) ?_
    refine s_ciE (va_runV (As := [.int _]) (rest := []) ⟨hx, hb, hml, hown, hw⟩ (c_K_isFreePage l  ) (cwV 1 hw (gd_V (gwd_1 (List.mem_of_getElem? (i := 39) rfl)) (gwd_1 (List.mem_of_getElem? (i := 40) rfl)) (gwd_9 (List.mem_of_getElem? (i := 13) rfl)) (gwd_0 (List.mem_of_getElem? (i := 1) rfl)) (gwd_1 (List.mem_of_getElem? (i := 41) rfl))) rfl rfl rfl (by decide +kernel) ⟨Nat.le_of_ble_eq_true rfl, Nat.le_of_ble_eq_true rfl⟩) (gPre.V (n := (0, 0, 0)) hK hH (by first | exact ⟨rfl, rfl⟩ | exact ⟨by assumption, rfl⟩ | exact ⟨by assumption, by assumption⟩ | exact ⟨by omega, rfl⟩ | exact ⟨by omega, by omega⟩ | exact ⟨by decide, rfl⟩) rfl rfl) rfl rfl hl.1 rfl (lv_room (Nat.le_of_ble_eq_true rfl)) dK_feed_14 ⟨Nat.zero_le _, Nat.zero_le _⟩) hS (fun H locs hH hS => ?_)
    refine s_ifne hx hb dK_feed_17 rfl (fun h_3 => ?_) (fun h_3 => ?_)
    · skip
      obtain ⟨j, hj, rfl⟩ := isP_ix (h_3).1
      have hi : ix (nI j) = j := ix_nI (by omega)
      refine lv_aload_n hx hb dK_feed_23 rfl (lv_at hl 1 rfl) ?_
      refine s_get hx hb hw inK hown hK hH 0 (by decide) (hw _ (gwd_0 (List.mem_of_getElem? (i := 41) rfl))) (by first | exact ⟨rfl, rfl⟩ | exact ⟨by assumption, rfl⟩ | exact ⟨by assumption, by assumption⟩ | exact ⟨by omega, rfl⟩ | exact ⟨by omega, by omega⟩ | exact ⟨by decide, rfl⟩) rfl rfl rfl rfl dK_feed_24 ?_
      refine lv_iload_n hx hb dK_feed_27 rfl (lv_at hl 3 rfl) ?_
      refine s_aaP hx hb hK hH _ (by first | rfl | assumption) (by first | assumption | decide | omega) dK_feed_28 ?_
      refine lv_iload_n hx hb dK_feed_29 rfl (lv_at hl 2 rfl) ?_
      refine s_cvE (va_runV (As := [.int _]) (rest := []) ⟨hx, hb, hml, hown, hw⟩ (c_P_becomeKeepers l  (by first | assumption | omega | decide)) (cwV 1 hw (gd_V (gwd_2 (List.mem_of_getElem? (i := 30) rfl)) (gwd_2 (List.mem_of_getElem? (i := 31) rfl)) (gwd_2 (List.mem_of_getElem? (i := 32) rfl)) (gwd_0 (List.mem_of_getElem? (i := 2) rfl)) (gwd_2 (List.mem_of_getElem? (i := 33) rfl))) rfl rfl rfl (by decide +kernel) ⟨Nat.le_of_ble_eq_true rfl, Nat.le_of_ble_eq_true rfl⟩) (gPre.V (n := (2, _, 0)) hK hH (by first | exact ⟨rfl, rfl⟩ | exact ⟨by assumption, rfl⟩ | exact ⟨by assumption, by assumption⟩ | exact ⟨by omega, rfl⟩ | exact ⟨by omega, by omega⟩ | exact ⟨by decide, rfl⟩) rfl rfl) rfl rfl hl.1 rfl (lv_room (Nat.le_of_ble_eq_true rfl)) dK_feed_30 ⟨Nat.zero_le _, Nat.zero_le _⟩) hS (fun H locs hH hS => ?_)
      refine lv_aload_n hx hb dK_feed_33 rfl (lv_at hl 0 rfl) ?_
      refine lv_dup hx hb dK_feed_34 rfl ?_
      refine s_get hx hb hw inG hown hK hH 5 (by decide) (hw _ (gwd_2 (List.mem_of_getElem? (i := 23) rfl))) (by first | exact ⟨rfl, rfl⟩ | exact ⟨by assumption, rfl⟩ | exact ⟨by assumption, by assumption⟩ | exact ⟨by omega, rfl⟩ | exact ⟨by omega, by omega⟩ | exact ⟨by decide, rfl⟩) rfl rfl rfl rfl dK_feed_35 ?_
      refine lv_iconst (v := 1) hx hb dK_feed_38 (by decide) ?_
      refine lv_iadd hx hb dK_feed_39 ?_
      refine s_put hx hb hw inG tyG_ok nG hown hK hH hS 5 (by decide) (hw _ (gwd_2 (List.mem_of_getElem? (i := 23) rfl))) (by first | exact ⟨rfl, rfl⟩ | exact ⟨by assumption, rfl⟩ | exact ⟨by assumption, by assumption⟩ | exact ⟨by omega, rfl⟩ | exact ⟨by omega, by omega⟩ | exact ⟨by decide, rfl⟩) rfl rfl rfl rfl rfl rfl rfl (Nat.le_of_ble_eq_true rfl) rfl dK_feed_40 (fun H locs hH hS => ?_)
      refine lv_aload_n hx hb dK_feed_43 rfl (lv_at hl 0 rfl) ?_
      refine s_ciE (va_runV (As := []) (rest := []) ⟨hx, hb, hml, hown, hw⟩ (c_G_poolSize l  (by assumption) (hPl)) (cwV 0 hw (gd_V (gwd_3 (List.mem_of_getElem? (i := 6) rfl)) (gwd_3 (List.mem_of_getElem? (i := 7) rfl)) (gwd_3 (List.mem_of_getElem? (i := 8) rfl)) (gwd_0 (List.mem_of_getElem? (i := 4) rfl)) (gwd_3 (List.mem_of_getElem? (i := 9) rfl))) rfl rfl rfl (by decide +kernel) ⟨Nat.le_of_ble_eq_true rfl, Nat.le_of_ble_eq_true rfl⟩) (gPre.V (n := (6, _, 0)) hK hH (by first | exact ⟨rfl, rfl⟩ | exact ⟨by assumption, rfl⟩ | exact ⟨by assumption, by assumption⟩ | exact ⟨by omega, rfl⟩ | exact ⟨by omega, by omega⟩ | exact ⟨by decide, rfl⟩) rfl rfl) rfl rfl hl.1 rfl (lv_room (Nat.le_of_ble_eq_true rfl)) dK_feed_44 ⟨Nat.zero_le _, Nat.zero_le _⟩) hS (fun H locs hH hS => ?_)
      exact r_i hx hb hr hlk hK hH hS dK_feed_47 (by simp only [cFeed, h_1]; first | (rw [if_pos h_3, hi]; exact ⟨rfl, rfl⟩) | (rw [if_neg h_3]; exact ⟨rfl, rfl⟩))
    · skip
      refine lv_bipush (v := -2) hx hb dK_feed_20 (by decide) ?_
      exact r_i hx hb hr hlk hK hH hS dK_feed_22 (by simp only [cFeed, h_1]; first | (rw [if_pos h_3, hi]; exact ⟨rfl, rfl⟩) | (rw [if_neg h_3]; exact ⟨rfl, rfl⟩))
theorem sRef_0 {I : gI} {P : gP} {g : Nat} {x y : Int32} (h : sRef I P g x y = 0) : sFree I x ∧ ¬ y < 0 ∧ ¬ 64 ≤ y ∧ P g (ix y) = none ∧ ¬ sPool I P g < sNew P g (ix y) := by
  unfold sRef at h
  by_cases h1 : sFree I x
  · rw [if_neg (fun q => q h1)] at h
    by_cases h2 : y < 0 ∨ 64 ≤ y ∨ ¬ P g (ix y) = none
    · rw [if_pos h2] at h
      exact absurd h (by decide)
    · rw [if_neg h2] at h
      by_cases h3 : sPool I P g < sNew P g (ix y)
      · rw [if_pos h3] at h
        exact absurd h (by decide)
      · refine ⟨h1, fun q => h2 (Or.inl q), fun q => h2 (Or.inr (Or.inl q)), ?_, h3⟩
        by_cases h4 : P g (ix y) = none
        · exact h4
        · exact absurd (Or.inr (Or.inr h4)) h2
  · rw [if_pos h1] at h
    exact absurd h (by decide)
set_option maxHeartbeats 4000000 in
set_option maxRecDepth 100000 in
theorem c_K_donate (l : Launch) {D : va_G} {c : Nat → ClassId} {sz : Nat} {ad : gN → Nat} {k : Nat} {I J : gI} {P : gP} {LG : Option Nat} {LP : Option (Nat × Nat)} {a x y : Int32} (hPl : ∀ g a q, P g a = some q → q < 24) : Met l yK_donate wK_donate { frames := 5, cells := 0, slots := 0, locals := 109 } (gPre D c sz [.ref (ad (0, 0, 0)), .int a, .int x, .int y] (ad, k, I, J, P, LG, LP)) (va_Qi (fun r u => r = (cDonate I k P a x y).1 ∧ u = (ad, k, (cDonate I k P a x y).2.1, J, (cDonate I k P a x y).2.2, LG, LP)) (gB D c sz) (gA sz)) 0 0 (gA sz) := by
  refine Met.ofW (cc := cK_donate) (maxL := 7) (ret := (some .int)) (by decide) rfl ?_
  intro p e s m args below meth cd s₁ B hml hv
  obtain ⟨rfl, hK, hH⟩ := hv
  have hx := B.exec
  have hb := B.bytes
  have hr := B.returns
  have hts := atoms_spec (ws := wK_donate) B.pre
  have hw : ∀ w ∈ gWd, w.before _ s = true := fun w h => hts w (List.mem_cons_of_mem _ h)
  have hown : s.vm.findClass RK = some m.cls := findClass_of_methodNamed B.named
  have hlk := B.notSynchronized
  have hS : va_S (gA sz) s.heap s.heap [] := va_S.rf
  have hH : gW D c sz ad k I J P LG LP s.heap := hH
  have hl := lv_entry ([.ref (ad (0, 0, 0)), .int a, .int x, .int y]) (n := 7) (Nat.le_of_ble_eq_true rfl)
  rw [lg_entry_eq]
  generalize (lg_sl ([.ref (ad (0, 0, 0)), .int a, .int x, .int y]) ++ List.replicate (7 - (lg_sl ([.ref (ad (0, 0, 0)), .int a, .int x, .int y])).length) Slot.unset).toArray = ls at hl ⊢
  have hl : lv_has ls 7 [(0, .ref (ad (0, 0, 0))), (1, .int a), (2, .int x), (3, .int y)] := hl
  refine lv_aload_n hx hb dK_donate_0 rfl (lv_at hl 0 rfl) ?_
  refine lv_iload_n hx hb dK_donate_1 rfl (lv_at hl 1 rfl) ?_
  refine s_cqE (va_runV (As := [.int _]) (rest := []) ⟨hx, hb, hml, hown, hw⟩ (c_K_livingGuest l  ) (cwV 1 hw (gd_V (gwd_3 (List.mem_of_getElem? (i := 3) rfl)) (gwd_3 (List.mem_of_getElem? (i := 4) rfl)) (gwd_9 (List.mem_of_getElem? (i := 14) rfl)) (gwd_0 (List.mem_of_getElem? (i := 1) rfl)) (gwd_3 (List.mem_of_getElem? (i := 5) rfl))) rfl rfl rfl (by decide +kernel) ⟨Nat.le_of_ble_eq_true rfl, Nat.le_of_ble_eq_true rfl⟩) (gPre.V (n := (0, 0, 0)) hK hH (by first | exact ⟨rfl, rfl⟩ | exact ⟨by assumption, rfl⟩ | exact ⟨by assumption, by assumption⟩ | exact ⟨by omega, rfl⟩ | exact ⟨by omega, by omega⟩ | exact ⟨by decide, rfl⟩) rfl rfl) rfl rfl hl.1 rfl (lv_room (Nat.le_of_ble_eq_true rfl)) dK_donate_2 ⟨Nat.zero_le _, Nat.zero_le _⟩) hS (fun H locs h_1 hH hS => ?_) (fun H locs g_2 h_1 hH hS => ?_)
  · skip
    refine lv_astoreN hx hb dK_donate_5 hl (by decide) rfl (fun ls hl => ?_)
    have hl : lv_has ls 7 [(4, .null), (0, .ref _), (1, .int _), (2, .int _), (3, .int _)] := hl
    refine lv_aload_n hx hb dK_donate_7 rfl (lv_at hl 1 rfl) ?_
    refine lv_aloadN hx hb dK_donate_8 (lv_at hl 0 rfl) ?_
    refine lv_iload_n hx hb dK_donate_10 rfl (lv_at hl 3 rfl) ?_
    refine lv_iload_n hx hb dK_donate_11 rfl (lv_at hl 4 rfl) ?_
    refine s_ciE (va_runV (As := [.null, .int _, .int _]) (rest := []) ⟨hx, hb, hml, hown, hw⟩ (c_K_placingRefusal0 l  ) (cwV 3 hw (gd_V (gwd_3 (List.mem_of_getElem? (i := 24) rfl)) (gwd_3 (List.mem_of_getElem? (i := 25) rfl)) (gwd_9 (List.mem_of_getElem? (i := 17) rfl)) (gwd_0 (List.mem_of_getElem? (i := 1) rfl)) (gwd_3 (List.mem_of_getElem? (i := 26) rfl))) rfl rfl rfl (by decide +kernel) ⟨Nat.le_of_ble_eq_true rfl, Nat.le_of_ble_eq_true rfl⟩) (gPre.V (n := (0, 0, 0)) hK hH (by first | exact ⟨rfl, rfl⟩ | exact ⟨by assumption, rfl⟩ | exact ⟨by assumption, by assumption⟩ | exact ⟨by omega, rfl⟩ | exact ⟨by omega, by omega⟩ | exact ⟨by decide, rfl⟩) rfl rfl) rfl rfl hl.1 rfl (lv_room (Nat.le_of_ble_eq_true rfl)) dK_donate_12 ⟨Nat.zero_le _, Nat.zero_le _⟩) hS (fun H locs hH hS => ?_)
    refine lv_istore hx hb dK_donate_15 hl (by decide) rfl (fun ls hl => ?_)
    have hl : lv_has ls 7 [(5, .int _), (4, .null), (0, .ref _), (1, .int _), (2, .int _), (3, .int _)] := hl
    refine lv_aloadN hx hb dK_donate_17 (lv_at hl 1 rfl) ?_
    refine lv_ifnullN hx hb dK_donate_19 rfl ?_
    refine lv_iload hx hb dK_donate_27 (lv_at hl 0 rfl) ?_
    exact r_i hx hb hr hlk hK hH hS dK_donate_29 (by simp only [cDonate, h_1]; exact ⟨trivial, trivial⟩)
  · skip
    have hlt_g_2 : g_2 < k := sLiv_lt h_1
    refine lv_astore hx hb dK_donate_5 hl (by decide) rfl (fun ls hl => ?_)
    have hl : lv_has ls 7 [(4, .ref _), (0, .ref _), (1, .int _), (2, .int _), (3, .int _)] := hl
    refine lv_aload_n hx hb dK_donate_7 rfl (lv_at hl 1 rfl) ?_
    refine lv_aload hx hb dK_donate_8 (lv_at hl 0 rfl) ?_
    refine lv_iload_n hx hb dK_donate_10 rfl (lv_at hl 3 rfl) ?_
    refine lv_iload_n hx hb dK_donate_11 rfl (lv_at hl 4 rfl) ?_
    refine s_ciE (va_runV (As := [.ref _, .int _, .int _]) (rest := []) ⟨hx, hb, hml, hown, hw⟩ (c_K_placingRefusal l  (by assumption) (hPl)) (cwV 3 hw (gd_V (gwd_3 (List.mem_of_getElem? (i := 24) rfl)) (gwd_3 (List.mem_of_getElem? (i := 25) rfl)) (gwd_9 (List.mem_of_getElem? (i := 17) rfl)) (gwd_0 (List.mem_of_getElem? (i := 1) rfl)) (gwd_3 (List.mem_of_getElem? (i := 26) rfl))) rfl rfl rfl (by decide +kernel) ⟨Nat.le_of_ble_eq_true rfl, Nat.le_of_ble_eq_true rfl⟩) (gPre.V (n := (0, 0, 0)) hK hH (by first | exact ⟨rfl, rfl⟩ | exact ⟨by assumption, rfl⟩ | exact ⟨by assumption, by assumption⟩ | exact ⟨by omega, rfl⟩ | exact ⟨by omega, by omega⟩ | exact ⟨by decide, rfl⟩) rfl rfl) rfl rfl hl.1 rfl (lv_room (Nat.le_of_ble_eq_true rfl)) dK_donate_12 ⟨Nat.zero_le _, Nat.zero_le _⟩) hS (fun H locs hH hS => ?_)
    refine lv_istore hx hb dK_donate_15 hl (by decide) rfl (fun ls hl => ?_)
    have hl : lv_has ls 7 [(5, .int _), (4, .ref _), (0, .ref _), (1, .int _), (2, .int _), (3, .int _)] := hl
    refine lv_aload hx hb dK_donate_17 (lv_at hl 1 rfl) ?_
    refine lv_ifnull hx hb dK_donate_19 ?_
    refine lv_iload hx hb dK_donate_22 (lv_at hl 0 rfl) ?_
    refine lv_if_eq hx hb dK_donate_24 rfl (fun h_3 => ?_) (fun h_3 => ?_)
    · skip
      obtain ⟨hf, hy0, hy1, hpn, hpl⟩ := sRef_0 h_3
      obtain ⟨j, hj, rfl⟩ := isP_ix hf.1
      have hi : ix (nI j) = j := ix_nI (by omega)
      obtain ⟨b, hb64, rfl⟩ := ix_lt 64 64 rfl (by decide) hy0 hy1
      have hib : ix (nI b) = b := ix_nI (by omega)
      refine lv_aload_n hx hb dK_donate_30 rfl (lv_at hl 2 rfl) ?_
      refine s_get hx hb hw inK hown hK hH 0 (by decide) (hw _ (gwd_0 (List.mem_of_getElem? (i := 41) rfl))) (by first | exact ⟨rfl, rfl⟩ | exact ⟨by assumption, rfl⟩ | exact ⟨by assumption, by assumption⟩ | exact ⟨by omega, rfl⟩ | exact ⟨by omega, by omega⟩ | exact ⟨by decide, rfl⟩) rfl rfl rfl rfl dK_donate_31 ?_
      refine lv_iload_n hx hb dK_donate_34 rfl (lv_at hl 4 rfl) ?_
      refine s_aaP hx hb hK hH _ (by first | rfl | assumption) (by first | assumption | decide | omega) dK_donate_35 ?_
      refine lv_astore hx hb dK_donate_36 hl (by decide) rfl (fun ls hl => ?_)
      have hl : lv_has ls 7 [(6, .ref _), (5, .int _), (4, .ref _), (0, .ref _), (1, .int _), (2, .int _), (3, .int _)] := hl
      refine lv_aload hx hb dK_donate_38 (lv_at hl 2 rfl) ?_
      refine s_get hx hb hw inG hown hK hH 4 (by decide) (hw _ (gwd_2 (List.mem_of_getElem? (i := 21) rfl))) (by first | exact ⟨rfl, rfl⟩ | exact ⟨by assumption, rfl⟩ | exact ⟨by assumption, by assumption⟩ | exact ⟨by omega, rfl⟩ | exact ⟨by omega, by omega⟩ | exact ⟨by decide, rfl⟩) rfl rfl rfl rfl dK_donate_40 ?_
      refine lv_if_eq hx hb dK_donate_43 rfl (fun h_4 => ?_) (fun h_4 => ?_)
      · skip
        refine lv_aload hx hb dK_donate_51 (lv_at hl 0 rfl) ?_
        refine lv_iload_n hx hb dK_donate_53 rfl (lv_at hl 4 rfl) ?_
        refine s_cvE (va_runV (As := [.int _]) (rest := []) ⟨hx, hb, hml, hown, hw⟩ (c_P_changeOwner l  (by first | assumption | omega | decide)) (cwV 1 hw (gd_V (gwd_3 (List.mem_of_getElem? (i := 32) rfl)) (gwd_2 (List.mem_of_getElem? (i := 39) rfl)) (gwd_2 (List.mem_of_getElem? (i := 40) rfl)) (gwd_0 (List.mem_of_getElem? (i := 2) rfl)) (gwd_2 (List.mem_of_getElem? (i := 41) rfl))) rfl rfl rfl (by decide +kernel) ⟨Nat.le_of_ble_eq_true rfl, Nat.le_of_ble_eq_true rfl⟩) (gPre.V (n := (2, _, 0)) hK hH (by first | exact ⟨rfl, rfl⟩ | exact ⟨by assumption, rfl⟩ | exact ⟨by assumption, by assumption⟩ | exact ⟨by omega, rfl⟩ | exact ⟨by omega, by omega⟩ | exact ⟨by decide, rfl⟩) rfl rfl) rfl rfl hl.1 rfl (lv_room (Nat.le_of_ble_eq_true rfl)) dK_donate_54 ⟨Nat.zero_le _, Nat.zero_le _⟩) hS (fun H locs hH hS => ?_)
        refine lv_aload hx hb dK_donate_57 (lv_at hl 2 rfl) ?_
        refine s_get hx hb hw inG hown hK hH 1 (by decide) (hw _ (gwd_2 (List.mem_of_getElem? (i := 16) rfl))) (by first | exact ⟨rfl, rfl⟩ | exact ⟨by assumption, rfl⟩ | exact ⟨by assumption, by assumption⟩ | exact ⟨by omega, rfl⟩ | exact ⟨by omega, by omega⟩ | exact ⟨by decide, rfl⟩) rfl rfl rfl rfl dK_donate_59 ?_
        refine lv_iload_n hx hb dK_donate_62 rfl (lv_at hl 6 rfl) ?_
        refine lv_aload hx hb dK_donate_63 (lv_at hl 0 rfl) ?_
        refine s_asL hx hb hK hH hS (by first | assumption | decide | omega) (by first | assumption | decide | omega) _ (by first | rfl | assumption) (by first | assumption | decide | omega) dK_donate_65 (fun H locs hH hS => ?_)
        refine lv_iconst (v := 0) hx hb dK_donate_66 (by decide) ?_
        exact r_i hx hb hr hlk hK hH hS dK_donate_67 (by simp only [cDonate, h_1]; rw [if_pos h_3, hi, hib]; first | (rw [if_pos h_4]; exact ⟨rfl, rfl⟩) | (rw [if_neg h_4]; exact ⟨rfl, rfl⟩))
      · skip
        refine lv_aload hx hb dK_donate_46 (lv_at hl 0 rfl) ?_
        refine s_cvE (va_runV (As := []) (rest := []) ⟨hx, hb, hml, hown, hw⟩ (c_P_wipe l  (by first | assumption | omega | decide)) (cwV 0 hw (gd_V (gwd_3 (List.mem_of_getElem? (i := 31) rfl)) (gwd_2 (List.mem_of_getElem? (i := 35) rfl)) (gwd_2 (List.mem_of_getElem? (i := 36) rfl)) (gwd_0 (List.mem_of_getElem? (i := 2) rfl)) (gwd_2 (List.mem_of_getElem? (i := 37) rfl))) rfl rfl rfl (by decide +kernel) ⟨Nat.le_of_ble_eq_true rfl, Nat.le_of_ble_eq_true rfl⟩) (gPre.V (n := (2, _, 0)) hK hH (by first | exact ⟨rfl, rfl⟩ | exact ⟨by assumption, rfl⟩ | exact ⟨by assumption, by assumption⟩ | exact ⟨by omega, rfl⟩ | exact ⟨by omega, by omega⟩ | exact ⟨by decide, rfl⟩) rfl rfl) rfl rfl hl.1 rfl (lv_room (Nat.le_of_ble_eq_true rfl)) dK_donate_48 ⟨Nat.zero_le _, Nat.zero_le _⟩) hS (fun H locs hH hS => ?_)
        refine lv_aload hx hb dK_donate_51 (lv_at hl 0 rfl) ?_
        refine lv_iload_n hx hb dK_donate_53 rfl (lv_at hl 4 rfl) ?_
        refine s_cvE (va_runV (As := [.int _]) (rest := []) ⟨hx, hb, hml, hown, hw⟩ (c_P_changeOwner l  (by first | assumption | omega | decide)) (cwV 1 hw (gd_V (gwd_3 (List.mem_of_getElem? (i := 32) rfl)) (gwd_2 (List.mem_of_getElem? (i := 39) rfl)) (gwd_2 (List.mem_of_getElem? (i := 40) rfl)) (gwd_0 (List.mem_of_getElem? (i := 2) rfl)) (gwd_2 (List.mem_of_getElem? (i := 41) rfl))) rfl rfl rfl (by decide +kernel) ⟨Nat.le_of_ble_eq_true rfl, Nat.le_of_ble_eq_true rfl⟩) (gPre.V (n := (2, _, 0)) hK hH (by first | exact ⟨rfl, rfl⟩ | exact ⟨by assumption, rfl⟩ | exact ⟨by assumption, by assumption⟩ | exact ⟨by omega, rfl⟩ | exact ⟨by omega, by omega⟩ | exact ⟨by decide, rfl⟩) rfl rfl) rfl rfl hl.1 rfl (lv_room (Nat.le_of_ble_eq_true rfl)) dK_donate_54 ⟨Nat.zero_le _, Nat.zero_le _⟩) hS (fun H locs hH hS => ?_)
        refine lv_aload hx hb dK_donate_57 (lv_at hl 2 rfl) ?_
        refine s_get hx hb hw inG hown hK hH 1 (by decide) (hw _ (gwd_2 (List.mem_of_getElem? (i := 16) rfl))) (by first | exact ⟨rfl, rfl⟩ | exact ⟨by assumption, rfl⟩ | exact ⟨by assumption, by assumption⟩ | exact ⟨by omega, rfl⟩ | exact ⟨by omega, by omega⟩ | exact ⟨by decide, rfl⟩) rfl rfl rfl rfl dK_donate_59 ?_
        refine lv_iload_n hx hb dK_donate_62 rfl (lv_at hl 6 rfl) ?_
        refine lv_aload hx hb dK_donate_63 (lv_at hl 0 rfl) ?_
        refine s_asL hx hb hK hH hS (by first | assumption | decide | omega) (by first | assumption | decide | omega) _ (by first | rfl | assumption) (by first | assumption | decide | omega) dK_donate_65 (fun H locs hH hS => ?_)
        refine lv_iconst (v := 0) hx hb dK_donate_66 (by decide) ?_
        exact r_i hx hb hr hlk hK hH hS dK_donate_67 (by simp only [cDonate, h_1]; rw [if_pos h_3, hi, hib]; first | (rw [if_pos h_4]; exact ⟨rfl, rfl⟩) | (rw [if_neg h_4]; exact ⟨rfl, rfl⟩))
    · skip
      refine lv_iload hx hb dK_donate_27 (lv_at hl 0 rfl) ?_
      exact r_i hx hb hr hlk hK hH hS dK_donate_29 (by simp only [cDonate, h_1]; rw [if_neg h_3]; exact ⟨rfl, rfl⟩)
set_option maxHeartbeats 4000000 in
set_option maxRecDepth 100000 in
theorem c_K_lend (l : Launch) {D : va_G} {c : Nat → ClassId} {sz : Nat} {ad : gN → Nat} {k : Nat} {I J : gI} {P : gP} {LG : Option Nat} {LP : Option (Nat × Nat)} {a x y : Int32} (hPl : ∀ g a q, P g a = some q → q < 24) : Met l yK_lend wK_lend { frames := 5, cells := 0, slots := 0, locals := 109 } (gPre D c sz [.ref (ad (0, 0, 0)), .int a, .int x, .int y] (ad, k, I, J, P, LG, LP)) (va_Qi (fun r u => r = (cLend I k P a x y).1 ∧ u = (ad, k, (cLend I k P a x y).2.1, J, (cLend I k P a x y).2.2, LG, LP)) (gB D c sz) (gA sz)) 0 0 (gA sz) := by
  refine Met.ofW (cc := cK_lend) (maxL := 6) (ret := (some .int)) (by decide) rfl ?_
  intro p e s m args below meth cd s₁ B hml hv
  obtain ⟨rfl, hK, hH⟩ := hv
  have hx := B.exec
  have hb := B.bytes
  have hr := B.returns
  have hts := atoms_spec (ws := wK_lend) B.pre
  have hw : ∀ w ∈ gWd, w.before _ s = true := fun w h => hts w (List.mem_cons_of_mem _ h)
  have hown : s.vm.findClass RK = some m.cls := findClass_of_methodNamed B.named
  have hlk := B.notSynchronized
  have hS : va_S (gA sz) s.heap s.heap [] := va_S.rf
  have hH : gW D c sz ad k I J P LG LP s.heap := hH
  have hl := lv_entry ([.ref (ad (0, 0, 0)), .int a, .int x, .int y]) (n := 6) (Nat.le_of_ble_eq_true rfl)
  rw [lg_entry_eq]
  generalize (lg_sl ([.ref (ad (0, 0, 0)), .int a, .int x, .int y]) ++ List.replicate (6 - (lg_sl ([.ref (ad (0, 0, 0)), .int a, .int x, .int y])).length) Slot.unset).toArray = ls at hl ⊢
  have hl : lv_has ls 6 [(0, .ref (ad (0, 0, 0))), (1, .int a), (2, .int x), (3, .int y)] := hl
  refine lv_aload_n hx hb dK_lend_0 rfl (lv_at hl 0 rfl) ?_
  refine lv_iload_n hx hb dK_lend_1 rfl (lv_at hl 1 rfl) ?_
  refine s_cqE (va_runV (As := [.int _]) (rest := []) ⟨hx, hb, hml, hown, hw⟩ (c_K_livingGuest l  ) (cwV 1 hw (gd_V (gwd_3 (List.mem_of_getElem? (i := 3) rfl)) (gwd_3 (List.mem_of_getElem? (i := 4) rfl)) (gwd_9 (List.mem_of_getElem? (i := 14) rfl)) (gwd_0 (List.mem_of_getElem? (i := 1) rfl)) (gwd_3 (List.mem_of_getElem? (i := 5) rfl))) rfl rfl rfl (by decide +kernel) ⟨Nat.le_of_ble_eq_true rfl, Nat.le_of_ble_eq_true rfl⟩) (gPre.V (n := (0, 0, 0)) hK hH (by first | exact ⟨rfl, rfl⟩ | exact ⟨by assumption, rfl⟩ | exact ⟨by assumption, by assumption⟩ | exact ⟨by omega, rfl⟩ | exact ⟨by omega, by omega⟩ | exact ⟨by decide, rfl⟩) rfl rfl) rfl rfl hl.1 rfl (lv_room (Nat.le_of_ble_eq_true rfl)) dK_lend_2 ⟨Nat.zero_le _, Nat.zero_le _⟩) hS (fun H locs h_1 hH hS => ?_) (fun H locs g_2 h_1 hH hS => ?_)
  · skip
    refine lv_astoreN hx hb dK_lend_5 hl (by decide) rfl (fun ls hl => ?_)
    have hl : lv_has ls 6 [(4, .null), (0, .ref _), (1, .int _), (2, .int _), (3, .int _)] := hl
    refine lv_aload_n hx hb dK_lend_7 rfl (lv_at hl 1 rfl) ?_
    refine lv_aloadN hx hb dK_lend_8 (lv_at hl 0 rfl) ?_
    refine lv_iload_n hx hb dK_lend_10 rfl (lv_at hl 3 rfl) ?_
    refine lv_iload_n hx hb dK_lend_11 rfl (lv_at hl 4 rfl) ?_
    refine s_ciE (va_runV (As := [.null, .int _, .int _]) (rest := []) ⟨hx, hb, hml, hown, hw⟩ (c_K_placingRefusal0 l  ) (cwV 3 hw (gd_V (gwd_3 (List.mem_of_getElem? (i := 24) rfl)) (gwd_3 (List.mem_of_getElem? (i := 25) rfl)) (gwd_9 (List.mem_of_getElem? (i := 17) rfl)) (gwd_0 (List.mem_of_getElem? (i := 1) rfl)) (gwd_3 (List.mem_of_getElem? (i := 26) rfl))) rfl rfl rfl (by decide +kernel) ⟨Nat.le_of_ble_eq_true rfl, Nat.le_of_ble_eq_true rfl⟩) (gPre.V (n := (0, 0, 0)) hK hH (by first | exact ⟨rfl, rfl⟩ | exact ⟨by assumption, rfl⟩ | exact ⟨by assumption, by assumption⟩ | exact ⟨by omega, rfl⟩ | exact ⟨by omega, by omega⟩ | exact ⟨by decide, rfl⟩) rfl rfl) rfl rfl hl.1 rfl (lv_room (Nat.le_of_ble_eq_true rfl)) dK_lend_12 ⟨Nat.zero_le _, Nat.zero_le _⟩) hS (fun H locs hH hS => ?_)
    refine lv_istore hx hb dK_lend_15 hl (by decide) rfl (fun ls hl => ?_)
    have hl : lv_has ls 6 [(5, .int _), (4, .null), (0, .ref _), (1, .int _), (2, .int _), (3, .int _)] := hl
    refine lv_aloadN hx hb dK_lend_17 (lv_at hl 1 rfl) ?_
    refine lv_ifnullN hx hb dK_lend_19 rfl ?_
    refine lv_iload hx hb dK_lend_27 (lv_at hl 0 rfl) ?_
    exact r_i hx hb hr hlk hK hH hS dK_lend_29 (by simp only [cLend, h_1]; exact ⟨trivial, trivial⟩)
  · skip
    have hlt_g_2 : g_2 < k := sLiv_lt h_1
    refine lv_astore hx hb dK_lend_5 hl (by decide) rfl (fun ls hl => ?_)
    have hl : lv_has ls 6 [(4, .ref _), (0, .ref _), (1, .int _), (2, .int _), (3, .int _)] := hl
    refine lv_aload_n hx hb dK_lend_7 rfl (lv_at hl 1 rfl) ?_
    refine lv_aload hx hb dK_lend_8 (lv_at hl 0 rfl) ?_
    refine lv_iload_n hx hb dK_lend_10 rfl (lv_at hl 3 rfl) ?_
    refine lv_iload_n hx hb dK_lend_11 rfl (lv_at hl 4 rfl) ?_
    refine s_ciE (va_runV (As := [.ref _, .int _, .int _]) (rest := []) ⟨hx, hb, hml, hown, hw⟩ (c_K_placingRefusal l  (by assumption) (hPl)) (cwV 3 hw (gd_V (gwd_3 (List.mem_of_getElem? (i := 24) rfl)) (gwd_3 (List.mem_of_getElem? (i := 25) rfl)) (gwd_9 (List.mem_of_getElem? (i := 17) rfl)) (gwd_0 (List.mem_of_getElem? (i := 1) rfl)) (gwd_3 (List.mem_of_getElem? (i := 26) rfl))) rfl rfl rfl (by decide +kernel) ⟨Nat.le_of_ble_eq_true rfl, Nat.le_of_ble_eq_true rfl⟩) (gPre.V (n := (0, 0, 0)) hK hH (by first | exact ⟨rfl, rfl⟩ | exact ⟨by assumption, rfl⟩ | exact ⟨by assumption, by assumption⟩ | exact ⟨by omega, rfl⟩ | exact ⟨by omega, by omega⟩ | exact ⟨by decide, rfl⟩) rfl rfl) rfl rfl hl.1 rfl (lv_room (Nat.le_of_ble_eq_true rfl)) dK_lend_12 ⟨Nat.zero_le _, Nat.zero_le _⟩) hS (fun H locs hH hS => ?_)
    refine lv_istore hx hb dK_lend_15 hl (by decide) rfl (fun ls hl => ?_)
    have hl : lv_has ls 6 [(5, .int _), (4, .ref _), (0, .ref _), (1, .int _), (2, .int _), (3, .int _)] := hl
    refine lv_aload hx hb dK_lend_17 (lv_at hl 1 rfl) ?_
    refine lv_ifnull hx hb dK_lend_19 ?_
    refine lv_iload hx hb dK_lend_22 (lv_at hl 0 rfl) ?_
    refine lv_if_eq hx hb dK_lend_24 rfl (fun h_3 => ?_) (fun h_3 => ?_)
    · skip
      obtain ⟨hf, hy0, hy1, hpn, hpl⟩ := sRef_0 h_3
      obtain ⟨j, hj, rfl⟩ := isP_ix hf.1
      have hi : ix (nI j) = j := ix_nI (by omega)
      obtain ⟨b, hb64, rfl⟩ := ix_lt 64 64 rfl (by decide) hy0 hy1
      have hib : ix (nI b) = b := ix_nI (by omega)
      refine lv_aload_n hx hb dK_lend_30 rfl (lv_at hl 2 rfl) ?_
      refine s_get hx hb hw inK hown hK hH 0 (by decide) (hw _ (gwd_0 (List.mem_of_getElem? (i := 41) rfl))) (by first | exact ⟨rfl, rfl⟩ | exact ⟨by assumption, rfl⟩ | exact ⟨by assumption, by assumption⟩ | exact ⟨by omega, rfl⟩ | exact ⟨by omega, by omega⟩ | exact ⟨by decide, rfl⟩) rfl rfl rfl rfl dK_lend_31 ?_
      refine lv_iload_n hx hb dK_lend_34 rfl (lv_at hl 4 rfl) ?_
      refine s_aaP hx hb hK hH _ (by first | rfl | assumption) (by first | assumption | decide | omega) dK_lend_35 ?_
      refine lv_iload_n hx hb dK_lend_36 rfl (lv_at hl 3 rfl) ?_
      refine s_put hx hb hw inP tyP_ok nP hown hK hH hS 2 (by decide) (hw _ (gwd_0 (List.mem_of_getElem? (i := 26) rfl))) (by first | exact ⟨rfl, rfl⟩ | exact ⟨by assumption, rfl⟩ | exact ⟨by assumption, by assumption⟩ | exact ⟨by omega, rfl⟩ | exact ⟨by omega, by omega⟩ | exact ⟨by decide, rfl⟩) rfl rfl rfl rfl rfl rfl rfl (Nat.le_of_ble_eq_true rfl) rfl dK_lend_37 (fun H locs hH hS => ?_)
      refine lv_aload hx hb dK_lend_40 (lv_at hl 1 rfl) ?_
      refine s_get hx hb hw inG hown hK hH 1 (by decide) (hw _ (gwd_2 (List.mem_of_getElem? (i := 16) rfl))) (by first | exact ⟨rfl, rfl⟩ | exact ⟨by assumption, rfl⟩ | exact ⟨by assumption, by assumption⟩ | exact ⟨by omega, rfl⟩ | exact ⟨by omega, by omega⟩ | exact ⟨by decide, rfl⟩) rfl rfl rfl rfl dK_lend_42 ?_
      refine lv_iload_n hx hb dK_lend_45 rfl (lv_at hl 5 rfl) ?_
      refine lv_aload_n hx hb dK_lend_46 rfl (lv_at hl 2 rfl) ?_
      refine s_get hx hb hw inK hown hK hH 0 (by decide) (hw _ (gwd_0 (List.mem_of_getElem? (i := 41) rfl))) (by first | exact ⟨rfl, rfl⟩ | exact ⟨by assumption, rfl⟩ | exact ⟨by assumption, by assumption⟩ | exact ⟨by omega, rfl⟩ | exact ⟨by omega, by omega⟩ | exact ⟨by decide, rfl⟩) rfl rfl rfl rfl dK_lend_47 ?_
      refine lv_iload_n hx hb dK_lend_50 rfl (lv_at hl 4 rfl) ?_
      refine s_aaP hx hb hK hH _ (by first | rfl | assumption) (by first | assumption | decide | omega) dK_lend_51 ?_
      refine s_asL hx hb hK hH hS (by first | assumption | decide | omega) (by first | assumption | decide | omega) _ (by first | rfl | assumption) (by first | assumption | decide | omega) dK_lend_52 (fun H locs hH hS => ?_)
      refine lv_iconst (v := 0) hx hb dK_lend_53 (by decide) ?_
      exact r_i hx hb hr hlk hK hH hS dK_lend_54 (by simp only [cLend, h_1]; first | (rw [if_neg h_3]; exact ⟨rfl, rfl⟩) | (rw [if_pos h_3, hi, hib]; exact ⟨rfl, rfl⟩))
    · skip
      refine lv_iload hx hb dK_lend_27 (lv_at hl 0 rfl) ?_
      exact r_i hx hb hr hlk hK hH hS dK_lend_29 (by simp only [cLend, h_1]; first | (rw [if_neg h_3]; exact ⟨rfl, rfl⟩) | (rw [if_pos h_3, hi, hib]; exact ⟨rfl, rfl⟩))
set_option maxHeartbeats 4000000 in
set_option maxRecDepth 100000 in
theorem c_K_takeBack (l : Launch) {D : va_G} {c : Nat → ClassId} {sz : Nat} {ad : gN → Nat} {k : Nat} {I J : gI} {P : gP} {LG : Option Nat} {LP : Option (Nat × Nat)} {x : Int32} (hPl : ∀ g a q, P g a = some q → q < 24) : Met l yK_takeBack wK_takeBack { frames := 1, cells := 0, slots := 0, locals := 22 } (gPre D c sz [.ref (ad (0, 0, 0)), .int x] (ad, k, I, J, P, LG, LP)) (va_Qi (fun r u => r = (cTake I k P x).1 ∧ u = (ad, k, (cTake I k P x).2.1, J, (cTake I k P x).2.2, LG, LP)) (gB D c sz) (gA sz)) 0 0 (gA sz) := by
  refine Met.ofW (cc := cK_takeBack) (maxL := 4) (ret := (some .boolean)) (by decide) rfl ?_
  intro p e s m args below meth cd s₁ B hml hv
  obtain ⟨rfl, hK, hH⟩ := hv
  have hx := B.exec
  have hb := B.bytes
  have hr := B.returns
  have hts := atoms_spec (ws := wK_takeBack) B.pre
  have hw : ∀ w ∈ gWd, w.before _ s = true := fun w h => hts w (List.mem_cons_of_mem _ h)
  have hown : s.vm.findClass RK = some m.cls := findClass_of_methodNamed B.named
  have hlk := B.notSynchronized
  have hS : va_S (gA sz) s.heap s.heap [] := va_S.rf
  have hH : gW D c sz ad k I J P LG LP s.heap := hH
  have hl := lv_entry ([.ref (ad (0, 0, 0)), .int x]) (n := 4) (Nat.le_of_ble_eq_true rfl)
  rw [lg_entry_eq]
  generalize (lg_sl ([.ref (ad (0, 0, 0)), .int x]) ++ List.replicate (4 - (lg_sl ([.ref (ad (0, 0, 0)), .int x])).length) Slot.unset).toArray = ls at hl ⊢
  have hl : lv_has ls 4 [(0, .ref (ad (0, 0, 0))), (1, .int x)] := hl
  refine lv_iload_n hx hb dK_takeBack_0 rfl (lv_at hl 1 rfl) ?_
  refine s_ciE (va_runS (As := [.int _]) (rest := []) ⟨hx, hb, hml, hown, hw⟩ (c_K_isPage l  ) (cwS 1 hw (gd_S (gwd_1 (List.mem_of_getElem? (i := 13) rfl)) (gwd_1 (List.mem_of_getElem? (i := 14) rfl)) (gwd_0 (List.mem_of_getElem? (i := 1) rfl)) (gwd_1 (List.mem_of_getElem? (i := 15) rfl))) rfl rfl rfl (by decide +kernel) ⟨Nat.le_of_ble_eq_true rfl, Nat.le_of_ble_eq_true rfl⟩) (gPre.S hK hH) rfl rfl hl.1 rfl (lv_room (Nat.le_of_ble_eq_true rfl)) dK_takeBack_1 ⟨Nat.zero_le _, Nat.zero_le _⟩) hS (fun H locs hH hS => ?_)
  refine s_ifeq hx hb dK_takeBack_4 rfl (fun h_1 => ?_) (fun h_1 => ?_)
  · skip
    refine lv_iconst (v := 0) hx hb dK_takeBack_19 (by decide) ?_
    exact r_z hx hb hr hlk hK hH hS dK_takeBack_20 (by first | exact Or.inl rfl | exact Or.inr rfl | exact bz_01 _ | assumption) (by rw [cTake, if_neg (fun q => h_1 q.1)]; exact ⟨rfl, rfl⟩)
  · skip
    obtain ⟨j, hj, rfl⟩ := isP_ix h_1
    have hi : ix (nI j) = j := ix_nI (by omega)
    refine lv_aload_n hx hb dK_takeBack_7 rfl (lv_at hl 0 rfl) ?_
    refine s_get hx hb hw inK hown hK hH 0 (by decide) (hw _ (gwd_0 (List.mem_of_getElem? (i := 41) rfl))) (by first | exact ⟨rfl, rfl⟩ | exact ⟨by assumption, rfl⟩ | exact ⟨by assumption, by assumption⟩ | exact ⟨by omega, rfl⟩ | exact ⟨by omega, by omega⟩ | exact ⟨by decide, rfl⟩) rfl rfl rfl rfl dK_takeBack_8 ?_
    refine lv_iload_n hx hb dK_takeBack_11 rfl (lv_at hl 1 rfl) ?_
    refine s_aaP hx hb hK hH _ (by first | rfl | assumption) (by first | assumption | decide | omega) dK_takeBack_12 ?_
    refine s_get hx hb hw inP hown hK hH 2 (by decide) (hw _ (gwd_0 (List.mem_of_getElem? (i := 26) rfl))) (by first | exact ⟨rfl, rfl⟩ | exact ⟨by assumption, rfl⟩ | exact ⟨by assumption, by assumption⟩ | exact ⟨by omega, rfl⟩ | exact ⟨by omega, by omega⟩ | exact ⟨by decide, rfl⟩) rfl rfl rfl rfl dK_takeBack_13 ?_
    refine lv_if_ne hx hb dK_takeBack_16 rfl (fun h_2 => ?_) (fun h_2 => ?_)
    · skip
      refine lv_aload_n hx hb dK_takeBack_21 rfl (lv_at hl 0 rfl) ?_
      refine s_get hx hb hw inK hown hK hH 0 (by decide) (hw _ (gwd_0 (List.mem_of_getElem? (i := 41) rfl))) (by first | exact ⟨rfl, rfl⟩ | exact ⟨by assumption, rfl⟩ | exact ⟨by assumption, by assumption⟩ | exact ⟨by omega, rfl⟩ | exact ⟨by omega, by omega⟩ | exact ⟨by decide, rfl⟩) rfl rfl rfl rfl dK_takeBack_22 ?_
      refine lv_iload_n hx hb dK_takeBack_25 rfl (lv_at hl 1 rfl) ?_
      refine s_aaP hx hb hK hH _ (by first | rfl | assumption) (by first | assumption | decide | omega) dK_takeBack_26 ?_
      refine lv_astore_n hx hb dK_takeBack_27 rfl hl (by decide) rfl (fun ls hl => ?_)
      have hl : lv_has ls 4 [(2, .ref _), (0, .ref _), (1, .int _)] := hl
      refine lv_aload_n hx hb dK_takeBack_28 rfl (lv_at hl 1 rfl) ?_
      refine lv_aload_n hx hb dK_takeBack_29 rfl (lv_at hl 0 rfl) ?_
      refine s_get hx hb hw inP hown hK hH 2 (by decide) (hw _ (gwd_0 (List.mem_of_getElem? (i := 26) rfl))) (by first | exact ⟨rfl, rfl⟩ | exact ⟨by assumption, rfl⟩ | exact ⟨by assumption, by assumption⟩ | exact ⟨by omega, rfl⟩ | exact ⟨by omega, by omega⟩ | exact ⟨by decide, rfl⟩) rfl rfl rfl rfl dK_takeBack_30 ?_
      refine s_cqE (va_runV (As := [.int _]) (rest := []) ⟨hx, hb, hml, hown, hw⟩ (c_K_livingGuest l  ) (cwV 1 hw (gd_V (gwd_3 (List.mem_of_getElem? (i := 3) rfl)) (gwd_3 (List.mem_of_getElem? (i := 4) rfl)) (gwd_9 (List.mem_of_getElem? (i := 14) rfl)) (gwd_0 (List.mem_of_getElem? (i := 1) rfl)) (gwd_3 (List.mem_of_getElem? (i := 5) rfl))) rfl rfl rfl (by decide +kernel) ⟨Nat.le_of_ble_eq_true rfl, Nat.le_of_ble_eq_true rfl⟩) (gPre.V (n := (0, 0, 0)) hK hH (by first | exact ⟨rfl, rfl⟩ | exact ⟨by assumption, rfl⟩ | exact ⟨by assumption, by assumption⟩ | exact ⟨by omega, rfl⟩ | exact ⟨by omega, by omega⟩ | exact ⟨by decide, rfl⟩) rfl rfl) rfl rfl hl.1 rfl (lv_room (Nat.le_of_ble_eq_true rfl)) dK_takeBack_33 ⟨Nat.zero_le _, Nat.zero_le _⟩) hS (fun H locs h_3 hH hS => ?_) (fun H locs g_4 h_3 hH hS => ?_)
      · skip
        refine lv_astore_nN hx hb dK_takeBack_36 rfl hl (by decide) rfl (fun ls hl => ?_)
        have hl : lv_has ls 4 [(3, .null), (2, .ref _), (0, .ref _), (1, .int _)] := hl
        refine lv_aload_nN hx hb dK_takeBack_37 rfl (lv_at hl 0 rfl) ?_
        refine lv_ifnullN hx hb dK_takeBack_38 rfl ?_
        refine lv_aload_n hx hb dK_takeBack_46 rfl (lv_at hl 1 rfl) ?_
        refine lv_iconst (v := 0) hx hb dK_takeBack_47 (by decide) ?_
        refine s_put hx hb hw inP tyP_ok nP hown hK hH hS 2 (by decide) (hw _ (gwd_0 (List.mem_of_getElem? (i := 26) rfl))) (by first | exact ⟨rfl, rfl⟩ | exact ⟨by assumption, rfl⟩ | exact ⟨by assumption, by assumption⟩ | exact ⟨by omega, rfl⟩ | exact ⟨by omega, by omega⟩ | exact ⟨by decide, rfl⟩) rfl rfl rfl rfl rfl rfl rfl (Nat.le_of_ble_eq_true rfl) rfl dK_takeBack_48 (fun H locs hH hS => ?_)
        refine lv_iconst (v := 1) hx hb dK_takeBack_51 (by decide) ?_
        exact r_z hx hb hr hlk hK hH hS dK_takeBack_52 (by first | exact Or.inl rfl | exact Or.inr rfl | exact bz_01 _ | assumption) (by rw [cTake, if_pos ⟨h_1, by rw [hi]; exact h_2⟩, hi]; simp only [h_3]; exact ⟨trivial, trivial⟩)
      · skip
        have hlt_g_4 : g_4 < k := sLiv_lt h_3
        refine lv_astore_n hx hb dK_takeBack_36 rfl hl (by decide) rfl (fun ls hl => ?_)
        have hl : lv_has ls 4 [(3, .ref _), (2, .ref _), (0, .ref _), (1, .int _)] := hl
        refine lv_aload_n hx hb dK_takeBack_37 rfl (lv_at hl 0 rfl) ?_
        refine lv_ifnull hx hb dK_takeBack_38 ?_
        refine lv_aload_n hx hb dK_takeBack_41 rfl (lv_at hl 0 rfl) ?_
        refine lv_aload_n hx hb dK_takeBack_42 rfl (lv_at hl 1 rfl) ?_
        refine s_cvE (va_runV (As := [.ref _]) (rest := []) ⟨hx, hb, hml, hown, hw⟩ (c_G_removePage l  (by assumption) (by assumption) (hPl)) (cwV 1 hw (gd_V (gwd_3 (List.mem_of_getElem? (i := 41) rfl)) (gwd_3 (List.mem_of_getElem? (i := 42) rfl)) (gwd_3 (List.mem_of_getElem? (i := 43) rfl)) (gwd_0 (List.mem_of_getElem? (i := 4) rfl)) (gwd_3 (List.mem_of_getElem? (i := 44) rfl))) rfl rfl rfl (by decide +kernel) ⟨Nat.le_of_ble_eq_true rfl, Nat.le_of_ble_eq_true rfl⟩) (gPre.V (n := (6, _, 0)) hK hH (by first | exact ⟨rfl, rfl⟩ | exact ⟨by assumption, rfl⟩ | exact ⟨by assumption, by assumption⟩ | exact ⟨by omega, rfl⟩ | exact ⟨by omega, by omega⟩ | exact ⟨by decide, rfl⟩) rfl rfl) rfl rfl hl.1 rfl (lv_room (Nat.le_of_ble_eq_true rfl)) dK_takeBack_43 ⟨Nat.zero_le _, Nat.zero_le _⟩) hS (fun H locs hH hS => ?_)
        refine lv_aload_n hx hb dK_takeBack_46 rfl (lv_at hl 1 rfl) ?_
        refine lv_iconst (v := 0) hx hb dK_takeBack_47 (by decide) ?_
        refine s_put hx hb hw inP tyP_ok nP hown hK hH hS 2 (by decide) (hw _ (gwd_0 (List.mem_of_getElem? (i := 26) rfl))) (by first | exact ⟨rfl, rfl⟩ | exact ⟨by assumption, rfl⟩ | exact ⟨by assumption, by assumption⟩ | exact ⟨by omega, rfl⟩ | exact ⟨by omega, by omega⟩ | exact ⟨by decide, rfl⟩) rfl rfl rfl rfl rfl rfl rfl (Nat.le_of_ble_eq_true rfl) rfl dK_takeBack_48 (fun H locs hH hS => ?_)
        refine lv_iconst (v := 1) hx hb dK_takeBack_51 (by decide) ?_
        exact r_z hx hb hr hlk hK hH hS dK_takeBack_52 (by first | exact Or.inl rfl | exact Or.inr rfl | exact bz_01 _ | assumption) (by rw [cTake, if_pos ⟨h_1, by rw [hi]; exact h_2⟩, hi]; simp only [h_3]; exact ⟨trivial, trivial⟩)
    · skip
      refine lv_iconst (v := 0) hx hb dK_takeBack_19 (by decide) ?_
      exact r_z hx hb hr hlk hK hH hS dK_takeBack_20 (by first | exact Or.inl rfl | exact Or.inr rfl | exact bz_01 _ | assumption) (by rw [cTake, if_neg (fun q => q.2 (by rw [hi]; exact h_2))]; exact ⟨rfl, rfl⟩)
set_option maxHeartbeats 4000000 in
set_option maxRecDepth 100000 in
theorem c_K_reclaim (l : Launch) {D : va_G} {c : Nat → ClassId} {sz : Nat} {ad : gN → Nat} {k : Nat} {I J : gI} {P : gP} {LG : Option Nat} {LP : Option (Nat × Nat)} {x : Int32}  : Met l yK_reclaim wK_reclaim { frames := 3, cells := 0, slots := 0, locals := 62 } (gPre D c sz [.ref (ad (0, 0, 0)), .int x] (ad, k, I, J, P, LG, LP)) (va_Qi (fun r u => r = (cReclaim I x).1 ∧ u = (ad, k, (cReclaim I x).2, J, P, LG, LP)) (gB D c sz) (gA sz)) 0 0 (gA sz) := by
  refine Met.ofW (cc := cK_reclaim) (maxL := 2) (ret := (some .boolean)) (by decide) rfl ?_
  intro p e s m args below meth cd s₁ B hml hv
  obtain ⟨rfl, hK, hH⟩ := hv
  have hx := B.exec
  have hb := B.bytes
  have hr := B.returns
  have hts := atoms_spec (ws := wK_reclaim) B.pre
  have hw : ∀ w ∈ gWd, w.before _ s = true := fun w h => hts w (List.mem_cons_of_mem _ h)
  have hown : s.vm.findClass RK = some m.cls := findClass_of_methodNamed B.named
  have hlk := B.notSynchronized
  have hS : va_S (gA sz) s.heap s.heap [] := va_S.rf
  have hH : gW D c sz ad k I J P LG LP s.heap := hH
  have hl := lv_entry ([.ref (ad (0, 0, 0)), .int x]) (n := 2) (Nat.le_of_ble_eq_true rfl)
  rw [lg_entry_eq]
  generalize (lg_sl ([.ref (ad (0, 0, 0)), .int x]) ++ List.replicate (2 - (lg_sl ([.ref (ad (0, 0, 0)), .int x])).length) Slot.unset).toArray = ls at hl ⊢
  have hl : lv_has ls 2 [(0, .ref (ad (0, 0, 0))), (1, .int x)] := hl
  refine lv_iload_n hx hb dK_reclaim_0 rfl (lv_at hl 1 rfl) ?_
  refine s_ciE (va_runS (As := [.int _]) (rest := []) ⟨hx, hb, hml, hown, hw⟩ (c_K_isPage l  ) (cwS 1 hw (gd_S (gwd_1 (List.mem_of_getElem? (i := 13) rfl)) (gwd_1 (List.mem_of_getElem? (i := 14) rfl)) (gwd_0 (List.mem_of_getElem? (i := 1) rfl)) (gwd_1 (List.mem_of_getElem? (i := 15) rfl))) rfl rfl rfl (by decide +kernel) ⟨Nat.le_of_ble_eq_true rfl, Nat.le_of_ble_eq_true rfl⟩) (gPre.S hK hH) rfl rfl hl.1 rfl (lv_room (Nat.le_of_ble_eq_true rfl)) dK_reclaim_1 ⟨Nat.zero_le _, Nat.zero_le _⟩) hS (fun H locs hH hS => ?_)
  refine s_ifeq hx hb dK_reclaim_4 rfl (fun h_1 => ?_) (fun h_1 => ?_)
  · skip
    refine lv_iconst (v := 0) hx hb dK_reclaim_21 (by decide) ?_
    exact r_z hx hb hr hlk hK hH hS dK_reclaim_22 (by first | exact Or.inl rfl | exact Or.inr rfl | exact bz_01 _ | assumption) (by rw [cReclaim, if_neg (fun q => h_1 q.1)]; exact ⟨rfl, rfl⟩)
  · skip
    obtain ⟨j, hj, rfl⟩ := isP_ix h_1
    have hi : ix (nI j) = j := ix_nI (by omega)
    refine lv_aload_n hx hb dK_reclaim_7 rfl (lv_at hl 0 rfl) ?_
    refine s_get hx hb hw inK hown hK hH 0 (by decide) (hw _ (gwd_0 (List.mem_of_getElem? (i := 41) rfl))) (by first | exact ⟨rfl, rfl⟩ | exact ⟨by assumption, rfl⟩ | exact ⟨by assumption, by assumption⟩ | exact ⟨by omega, rfl⟩ | exact ⟨by omega, by omega⟩ | exact ⟨by decide, rfl⟩) rfl rfl rfl rfl dK_reclaim_8 ?_
    refine lv_iload_n hx hb dK_reclaim_11 rfl (lv_at hl 1 rfl) ?_
    refine s_aaP hx hb hK hH _ (by first | rfl | assumption) (by first | assumption | decide | omega) dK_reclaim_12 ?_
    refine s_get hx hb hw inP hown hK hH 1 (by decide) (hw _ (gwd_0 (List.mem_of_getElem? (i := 24) rfl))) (by first | exact ⟨rfl, rfl⟩ | exact ⟨by assumption, rfl⟩ | exact ⟨by assumption, by assumption⟩ | exact ⟨by omega, rfl⟩ | exact ⟨by omega, by omega⟩ | exact ⟨by decide, rfl⟩) rfl rfl rfl rfl dK_reclaim_13 ?_
    refine lv_bipush (v := 8) hx hb dK_reclaim_16 (by decide) ?_
    refine lv_icmp_eq hx hb dK_reclaim_18 rfl (fun h_2 => ?_) (fun h_2 => ?_)
    · skip
      refine lv_aload_n hx hb dK_reclaim_23 rfl (lv_at hl 0 rfl) ?_
      refine s_get hx hb hw inK hown hK hH 0 (by decide) (hw _ (gwd_0 (List.mem_of_getElem? (i := 41) rfl))) (by first | exact ⟨rfl, rfl⟩ | exact ⟨by assumption, rfl⟩ | exact ⟨by assumption, by assumption⟩ | exact ⟨by omega, rfl⟩ | exact ⟨by omega, by omega⟩ | exact ⟨by decide, rfl⟩) rfl rfl rfl rfl dK_reclaim_24 ?_
      refine lv_iload_n hx hb dK_reclaim_27 rfl (lv_at hl 1 rfl) ?_
      refine s_aaP hx hb hK hH _ (by first | rfl | assumption) (by first | assumption | decide | omega) dK_reclaim_28 ?_
      refine s_cvE (va_runV (As := []) (rest := []) ⟨hx, hb, hml, hown, hw⟩ (c_P_wipe l  (by first | assumption | omega | decide)) (cwV 0 hw (gd_V (gwd_3 (List.mem_of_getElem? (i := 31) rfl)) (gwd_2 (List.mem_of_getElem? (i := 35) rfl)) (gwd_2 (List.mem_of_getElem? (i := 36) rfl)) (gwd_0 (List.mem_of_getElem? (i := 2) rfl)) (gwd_2 (List.mem_of_getElem? (i := 37) rfl))) rfl rfl rfl (by decide +kernel) ⟨Nat.le_of_ble_eq_true rfl, Nat.le_of_ble_eq_true rfl⟩) (gPre.V (n := (2, _, 0)) hK hH (by first | exact ⟨rfl, rfl⟩ | exact ⟨by assumption, rfl⟩ | exact ⟨by assumption, by assumption⟩ | exact ⟨by omega, rfl⟩ | exact ⟨by omega, by omega⟩ | exact ⟨by decide, rfl⟩) rfl rfl) rfl rfl hl.1 rfl (lv_room (Nat.le_of_ble_eq_true rfl)) dK_reclaim_29 ⟨Nat.zero_le _, Nat.zero_le _⟩) hS (fun H locs hH hS => ?_)
      refine lv_aload_n hx hb dK_reclaim_32 rfl (lv_at hl 0 rfl) ?_
      refine s_get hx hb hw inK hown hK hH 0 (by decide) (hw _ (gwd_0 (List.mem_of_getElem? (i := 41) rfl))) (by first | exact ⟨rfl, rfl⟩ | exact ⟨by assumption, rfl⟩ | exact ⟨by assumption, by assumption⟩ | exact ⟨by omega, rfl⟩ | exact ⟨by omega, by omega⟩ | exact ⟨by decide, rfl⟩) rfl rfl rfl rfl dK_reclaim_33 ?_
      refine lv_iload_n hx hb dK_reclaim_36 rfl (lv_at hl 1 rfl) ?_
      refine s_aaP hx hb hK hH _ (by first | rfl | assumption) (by first | assumption | decide | omega) dK_reclaim_37 ?_
      refine lv_iconst (v := 0) hx hb dK_reclaim_38 (by decide) ?_
      refine s_cvE (va_runV (As := [.int _]) (rest := []) ⟨hx, hb, hml, hown, hw⟩ (c_P_changeOwner l  (by first | assumption | omega | decide)) (cwV 1 hw (gd_V (gwd_3 (List.mem_of_getElem? (i := 32) rfl)) (gwd_2 (List.mem_of_getElem? (i := 39) rfl)) (gwd_2 (List.mem_of_getElem? (i := 40) rfl)) (gwd_0 (List.mem_of_getElem? (i := 2) rfl)) (gwd_2 (List.mem_of_getElem? (i := 41) rfl))) rfl rfl rfl (by decide +kernel) ⟨Nat.le_of_ble_eq_true rfl, Nat.le_of_ble_eq_true rfl⟩) (gPre.V (n := (2, _, 0)) hK hH (by first | exact ⟨rfl, rfl⟩ | exact ⟨by assumption, rfl⟩ | exact ⟨by assumption, by assumption⟩ | exact ⟨by omega, rfl⟩ | exact ⟨by omega, by omega⟩ | exact ⟨by decide, rfl⟩) rfl rfl) rfl rfl hl.1 rfl (lv_room (Nat.le_of_ble_eq_true rfl)) dK_reclaim_39 ⟨Nat.zero_le _, Nat.zero_le _⟩) hS (fun H locs hH hS => ?_)
      refine lv_iconst (v := 1) hx hb dK_reclaim_42 (by decide) ?_
      exact r_z hx hb hr hlk hK hH hS dK_reclaim_43 (by first | exact Or.inl rfl | exact Or.inr rfl | exact bz_01 _ | assumption) (by first | (rw [cReclaim, if_neg (fun q => h_2 (by rw [← hi]; exact q.2))]; exact ⟨rfl, rfl⟩) | (rw [cReclaim, if_pos ⟨h_1, by rw [hi]; exact h_2⟩, hi]; exact ⟨rfl, rfl⟩))
    · skip
      refine lv_iconst (v := 0) hx hb dK_reclaim_21 (by decide) ?_
      exact r_z hx hb hr hlk hK hH hS dK_reclaim_22 (by first | exact Or.inl rfl | exact Or.inr rfl | exact bz_01 _ | assumption) (by first | (rw [cReclaim, if_neg (fun q => h_2 (by rw [← hi]; exact q.2))]; exact ⟨rfl, rfl⟩) | (rw [cReclaim, if_pos ⟨h_1, by rw [hi]; exact h_2⟩, hi]; exact ⟨rfl, rfl⟩))
set_option maxHeartbeats 4000000 in
set_option maxRecDepth 100000 in
theorem c_K_owner (l : Launch) {D : va_G} {c : Nat → ClassId} {sz : Nat} {ad : gN → Nat} {k : Nat} {I J : gI} {P : gP} {LG : Option Nat} {LP : Option (Nat × Nat)} {x : Int32}  : Met l yK_owner wK_owner { frames := 1, cells := 0, slots := 0, locals := 20 } (gPre D c sz [.ref (ad (0, 0, 0)), .int x] (ad, k, I, J, P, LG, LP)) (va_Qi (fun r u => r = cOwner I x ∧ u = (ad, k, I, J, P, LG, LP)) (gB D c sz) (gA sz)) 0 0 (gA sz) := by
  refine Met.ofW (cc := cK_owner) (maxL := 2) (ret := (some .int)) (by decide) rfl ?_
  intro p e s m args below meth cd s₁ B hml hv
  obtain ⟨rfl, hK, hH⟩ := hv
  have hx := B.exec
  have hb := B.bytes
  have hr := B.returns
  have hts := atoms_spec (ws := wK_owner) B.pre
  have hw : ∀ w ∈ gWd, w.before _ s = true := fun w h => hts w (List.mem_cons_of_mem _ h)
  have hown : s.vm.findClass RK = some m.cls := findClass_of_methodNamed B.named
  have hlk := B.notSynchronized
  have hS : va_S (gA sz) s.heap s.heap [] := va_S.rf
  have hH : gW D c sz ad k I J P LG LP s.heap := hH
  have hl := lv_entry ([.ref (ad (0, 0, 0)), .int x]) (n := 2) (Nat.le_of_ble_eq_true rfl)
  rw [lg_entry_eq]
  generalize (lg_sl ([.ref (ad (0, 0, 0)), .int x]) ++ List.replicate (2 - (lg_sl ([.ref (ad (0, 0, 0)), .int x])).length) Slot.unset).toArray = ls at hl ⊢
  have hl : lv_has ls 2 [(0, .ref (ad (0, 0, 0))), (1, .int x)] := hl
  refine lv_iload_n hx hb dK_owner_0 rfl (lv_at hl 1 rfl) ?_
  refine s_ciE (va_runS (As := [.int _]) (rest := []) ⟨hx, hb, hml, hown, hw⟩ (c_K_isPage l  ) (cwS 1 hw (gd_S (gwd_1 (List.mem_of_getElem? (i := 13) rfl)) (gwd_1 (List.mem_of_getElem? (i := 14) rfl)) (gwd_0 (List.mem_of_getElem? (i := 1) rfl)) (gwd_1 (List.mem_of_getElem? (i := 15) rfl))) rfl rfl rfl (by decide +kernel) ⟨Nat.le_of_ble_eq_true rfl, Nat.le_of_ble_eq_true rfl⟩) (gPre.S hK hH) rfl rfl hl.1 rfl (lv_room (Nat.le_of_ble_eq_true rfl)) dK_owner_1 ⟨Nat.zero_le _, Nat.zero_le _⟩) hS (fun H locs hH hS => ?_)
  refine s_ifeq hx hb dK_owner_4 rfl (fun h_1 => ?_) (fun h_1 => ?_)
  · skip
    refine lv_iconst (v := -1) hx hb dK_owner_19 (by decide) ?_
    exact r_i hx hb hr hlk hK hH hS dK_owner_20 (⟨by first | rw [cOwner, if_neg h_1] | rw [cOwner, if_pos h_1, hi], rfl⟩)
  · skip
    obtain ⟨j, hj, rfl⟩ := isP_ix h_1
    have hi : ix (nI j) = j := ix_nI (by omega)
    refine lv_aload_n hx hb dK_owner_7 rfl (lv_at hl 0 rfl) ?_
    refine s_get hx hb hw inK hown hK hH 0 (by decide) (hw _ (gwd_0 (List.mem_of_getElem? (i := 41) rfl))) (by first | exact ⟨rfl, rfl⟩ | exact ⟨by assumption, rfl⟩ | exact ⟨by assumption, by assumption⟩ | exact ⟨by omega, rfl⟩ | exact ⟨by omega, by omega⟩ | exact ⟨by decide, rfl⟩) rfl rfl rfl rfl dK_owner_8 ?_
    refine lv_iload_n hx hb dK_owner_11 rfl (lv_at hl 1 rfl) ?_
    refine s_aaP hx hb hK hH _ (by first | rfl | assumption) (by first | assumption | decide | omega) dK_owner_12 ?_
    refine s_get hx hb hw inP hown hK hH 1 (by decide) (hw _ (gwd_0 (List.mem_of_getElem? (i := 24) rfl))) (by first | exact ⟨rfl, rfl⟩ | exact ⟨by assumption, rfl⟩ | exact ⟨by assumption, by assumption⟩ | exact ⟨by omega, rfl⟩ | exact ⟨by omega, by omega⟩ | exact ⟨by decide, rfl⟩) rfl rfl rfl rfl dK_owner_13 ?_
    refine lv_goto hx hb dK_owner_16 rfl ?_
    exact r_i hx hb hr hlk hK hH hS dK_owner_20 (⟨by first | rw [cOwner, if_neg h_1] | rw [cOwner, if_pos h_1, hi], rfl⟩)
set_option maxHeartbeats 4000000 in
set_option maxRecDepth 100000 in
theorem c_K_state (l : Launch) {D : va_G} {c : Nat → ClassId} {sz : Nat} {ad : gN → Nat} {k : Nat} {I J : gI} {P : gP} {LG : Option Nat} {LP : Option (Nat × Nat)} {x : Int32}  : Met l yK_state wK_state { frames := 1, cells := 0, slots := 0, locals := 20 } (gPre D c sz [.ref (ad (0, 0, 0)), .int x] (ad, k, I, J, P, LG, LP)) (va_Qi (fun r u => r = cState I x ∧ u = (ad, k, I, J, P, LG, LP)) (gB D c sz) (gA sz)) 0 0 (gA sz) := by
  refine Met.ofW (cc := cK_state) (maxL := 4) (ret := (some .int)) (by decide) rfl ?_
  intro p e s m args below meth cd s₁ B hml hv
  obtain ⟨rfl, hK, hH⟩ := hv
  have hx := B.exec
  have hb := B.bytes
  have hr := B.returns
  have hts := atoms_spec (ws := wK_state) B.pre
  have hw : ∀ w ∈ gWd, w.before _ s = true := fun w h => hts w (List.mem_cons_of_mem _ h)
  have hown : s.vm.findClass RK = some m.cls := findClass_of_methodNamed B.named
  have hlk := B.notSynchronized
  have hS : va_S (gA sz) s.heap s.heap [] := va_S.rf
  have hH : gW D c sz ad k I J P LG LP s.heap := hH
  have hl := lv_entry ([.ref (ad (0, 0, 0)), .int x]) (n := 4) (Nat.le_of_ble_eq_true rfl)
  rw [lg_entry_eq]
  generalize (lg_sl ([.ref (ad (0, 0, 0)), .int x]) ++ List.replicate (4 - (lg_sl ([.ref (ad (0, 0, 0)), .int x])).length) Slot.unset).toArray = ls at hl ⊢
  have hl : lv_has ls 4 [(0, .ref (ad (0, 0, 0))), (1, .int x)] := hl
  refine lv_iload_n hx hb dK_state_0 rfl (lv_at hl 1 rfl) ?_
  refine s_ciE (va_runS (As := [.int _]) (rest := []) ⟨hx, hb, hml, hown, hw⟩ (c_K_isPage l  ) (cwS 1 hw (gd_S (gwd_1 (List.mem_of_getElem? (i := 13) rfl)) (gwd_1 (List.mem_of_getElem? (i := 14) rfl)) (gwd_0 (List.mem_of_getElem? (i := 1) rfl)) (gwd_1 (List.mem_of_getElem? (i := 15) rfl))) rfl rfl rfl (by decide +kernel) ⟨Nat.le_of_ble_eq_true rfl, Nat.le_of_ble_eq_true rfl⟩) (gPre.S hK hH) rfl rfl hl.1 rfl (lv_room (Nat.le_of_ble_eq_true rfl)) dK_state_1 ⟨Nat.zero_le _, Nat.zero_le _⟩) hS (fun H locs hH hS => ?_)
  refine s_ifne hx hb dK_state_4 rfl (fun h_1 => ?_) (fun h_1 => ?_)
  · skip
    obtain ⟨j, hj, rfl⟩ := isP_ix h_1
    have hi : ix (nI j) = j := ix_nI (by omega)
    refine lv_aload_n hx hb dK_state_9 rfl (lv_at hl 0 rfl) ?_
    refine s_get hx hb hw inK hown hK hH 0 (by decide) (hw _ (gwd_0 (List.mem_of_getElem? (i := 41) rfl))) (by first | exact ⟨rfl, rfl⟩ | exact ⟨by assumption, rfl⟩ | exact ⟨by assumption, by assumption⟩ | exact ⟨by omega, rfl⟩ | exact ⟨by omega, by omega⟩ | exact ⟨by decide, rfl⟩) rfl rfl rfl rfl dK_state_10 ?_
    refine lv_iload_n hx hb dK_state_13 rfl (lv_at hl 1 rfl) ?_
    refine s_aaP hx hb hK hH _ (by first | rfl | assumption) (by first | assumption | decide | omega) dK_state_14 ?_
    refine lv_astore_n hx hb dK_state_15 rfl hl (by decide) rfl (fun ls hl => ?_)
    have hl : lv_has ls 4 [(2, .ref _), (0, .ref _), (1, .int _)] := hl
    refine lv_aload_n hx hb dK_state_16 rfl (lv_at hl 0 rfl) ?_
    refine s_get hx hb hw inP hown hK hH 4 (by decide) (hw _ (gwd_0 (List.mem_of_getElem? (i := 30) rfl))) (by first | exact ⟨rfl, rfl⟩ | exact ⟨by assumption, rfl⟩ | exact ⟨by assumption, by assumption⟩ | exact ⟨by omega, rfl⟩ | exact ⟨by omega, by omega⟩ | exact ⟨by decide, rfl⟩) rfl rfl rfl rfl dK_state_17 ?_
    refine lv_if_ne hx hb dK_state_20 rfl (fun h_2 => ?_) (fun h_2 => ?_)
    · skip
      refine lv_iconst (v := 1) hx hb dK_state_30 (by decide) ?_
      refine lv_goto hx hb dK_state_31 rfl ?_
      refine lv_istore_n hx hb dK_state_35 rfl hl (by decide) rfl (fun ls hl => ?_)
      have hl : lv_has ls 4 [(3, .int _), (2, .ref _), (0, .ref _), (1, .int _)] := hl
      refine lv_aload_n hx hb dK_state_36 rfl (lv_at hl 1 rfl) ?_
      refine s_get hx hb hw inP hown hK hH 5 (by decide) (hw _ (gwd_0 (List.mem_of_getElem? (i := 32) rfl))) (by first | exact ⟨rfl, rfl⟩ | exact ⟨by assumption, rfl⟩ | exact ⟨by assumption, by assumption⟩ | exact ⟨by omega, rfl⟩ | exact ⟨by omega, by omega⟩ | exact ⟨by decide, rfl⟩) rfl rfl rfl rfl dK_state_37 ?_
      refine lv_if_eq hx hb dK_state_40 rfl (fun h_3 => ?_) (fun h_3 => ?_)
      · skip
        refine lv_iload_n hx hb dK_state_49 rfl (lv_at hl 0 rfl) ?_
        exact r_i hx hb hr hlk hK hH hS dK_state_50 (⟨by first | (rw [cState, if_neg h_1]; done) | (rw [cState, if_pos h_1, hi]; simp [h_2, h_3]), rfl⟩)
      · skip
        refine lv_iload_n hx hb dK_state_43 rfl (lv_at hl 0 rfl) ?_
        refine lv_iconst (v := 2) hx hb dK_state_44 (by decide) ?_
        refine lv_iadd hx hb dK_state_45 ?_
        refine lv_goto hx hb dK_state_46 rfl ?_
        exact r_i hx hb hr hlk hK hH hS dK_state_50 (⟨by first | (rw [cState, if_neg h_1]; done) | (rw [cState, if_pos h_1, hi]; simp [h_2, h_3]), rfl⟩)
    · skip
      refine lv_aload_n hx hb dK_state_23 rfl (lv_at hl 0 rfl) ?_
      refine s_get hx hb hw inP hown hK hH 2 (by decide) (hw _ (gwd_0 (List.mem_of_getElem? (i := 26) rfl))) (by first | exact ⟨rfl, rfl⟩ | exact ⟨by assumption, rfl⟩ | exact ⟨by assumption, by assumption⟩ | exact ⟨by omega, rfl⟩ | exact ⟨by omega, by omega⟩ | exact ⟨by decide, rfl⟩) rfl rfl rfl rfl dK_state_24 ?_
      refine lv_if_eq hx hb dK_state_27 rfl (fun h_4 => ?_) (fun h_4 => ?_)
      · skip
        refine lv_iconst (v := 0) hx hb dK_state_34 (by decide) ?_
        refine lv_istore_n hx hb dK_state_35 rfl hl (by decide) rfl (fun ls hl => ?_)
        have hl : lv_has ls 4 [(3, .int _), (2, .ref _), (0, .ref _), (1, .int _)] := hl
        refine lv_aload_n hx hb dK_state_36 rfl (lv_at hl 1 rfl) ?_
        refine s_get hx hb hw inP hown hK hH 5 (by decide) (hw _ (gwd_0 (List.mem_of_getElem? (i := 32) rfl))) (by first | exact ⟨rfl, rfl⟩ | exact ⟨by assumption, rfl⟩ | exact ⟨by assumption, by assumption⟩ | exact ⟨by omega, rfl⟩ | exact ⟨by omega, by omega⟩ | exact ⟨by decide, rfl⟩) rfl rfl rfl rfl dK_state_37 ?_
        refine lv_if_eq hx hb dK_state_40 rfl (fun h_5 => ?_) (fun h_5 => ?_)
        · skip
          refine lv_iload_n hx hb dK_state_49 rfl (lv_at hl 0 rfl) ?_
          exact r_i hx hb hr hlk hK hH hS dK_state_50 (⟨by first | (rw [cState, if_neg h_1]; done) | (rw [cState, if_pos h_1, hi]; simp [h_2, h_4, h_5]), rfl⟩)
        · skip
          refine lv_iload_n hx hb dK_state_43 rfl (lv_at hl 0 rfl) ?_
          refine lv_iconst (v := 2) hx hb dK_state_44 (by decide) ?_
          refine lv_iadd hx hb dK_state_45 ?_
          refine lv_goto hx hb dK_state_46 rfl ?_
          exact r_i hx hb hr hlk hK hH hS dK_state_50 (⟨by first | (rw [cState, if_neg h_1]; done) | (rw [cState, if_pos h_1, hi]; simp [h_2, h_4, h_5]), rfl⟩)
      · skip
        refine lv_iconst (v := 1) hx hb dK_state_30 (by decide) ?_
        refine lv_goto hx hb dK_state_31 rfl ?_
        refine lv_istore_n hx hb dK_state_35 rfl hl (by decide) rfl (fun ls hl => ?_)
        have hl : lv_has ls 4 [(3, .int _), (2, .ref _), (0, .ref _), (1, .int _)] := hl
        refine lv_aload_n hx hb dK_state_36 rfl (lv_at hl 1 rfl) ?_
        refine s_get hx hb hw inP hown hK hH 5 (by decide) (hw _ (gwd_0 (List.mem_of_getElem? (i := 32) rfl))) (by first | exact ⟨rfl, rfl⟩ | exact ⟨by assumption, rfl⟩ | exact ⟨by assumption, by assumption⟩ | exact ⟨by omega, rfl⟩ | exact ⟨by omega, by omega⟩ | exact ⟨by decide, rfl⟩) rfl rfl rfl rfl dK_state_37 ?_
        refine lv_if_eq hx hb dK_state_40 rfl (fun h_6 => ?_) (fun h_6 => ?_)
        · skip
          refine lv_iload_n hx hb dK_state_49 rfl (lv_at hl 0 rfl) ?_
          exact r_i hx hb hr hlk hK hH hS dK_state_50 (⟨by first | (rw [cState, if_neg h_1]; done) | (rw [cState, if_pos h_1, hi]; simp [h_2, h_4, h_6]), rfl⟩)
        · skip
          refine lv_iload_n hx hb dK_state_43 rfl (lv_at hl 0 rfl) ?_
          refine lv_iconst (v := 2) hx hb dK_state_44 (by decide) ?_
          refine lv_iadd hx hb dK_state_45 ?_
          refine lv_goto hx hb dK_state_46 rfl ?_
          exact r_i hx hb hr hlk hK hH hS dK_state_50 (⟨by first | (rw [cState, if_neg h_1]; done) | (rw [cState, if_pos h_1, hi]; simp [h_2, h_4, h_6]), rfl⟩)
  · skip
    refine lv_iconst (v := -1) hx hb dK_state_7 (by decide) ?_
    exact r_i hx hb hr hlk hK hH hS dK_state_8 (⟨by first | (rw [cState, if_neg h_1]; done) | (rw [cState, if_pos h_1, hi]; simp []), rfl⟩)
set_option maxHeartbeats 4000000 in
set_option maxRecDepth 100000 in
theorem c_K_pool (l : Launch) {D : va_G} {c : Nat → ClassId} {sz : Nat} {ad : gN → Nat} {k : Nat} {I J : gI} {P : gP} {LG : Option Nat} {LP : Option (Nat × Nat)} {a : Int32} (hPl : ∀ g a q, P g a = some q → q < 24) : Met l yK_pool wK_pool { frames := 4, cells := 0, slots := 0, locals := 86 } (gPre D c sz [.ref (ad (0, 0, 0)), .int a] (ad, k, I, J, P, LG, LP)) (va_Qi (fun r u => r = cPool I k P a ∧ u = (ad, k, I, J, P, LG, LP)) (gB D c sz) (gA sz)) 0 0 (gA sz) := by
  refine Met.ofW (cc := cK_pool) (maxL := 3) (ret := (some .int)) (by decide) rfl ?_
  intro p e s m args below meth cd s₁ B hml hv
  obtain ⟨rfl, hK, hH⟩ := hv
  have hx := B.exec
  have hb := B.bytes
  have hr := B.returns
  have hts := atoms_spec (ws := wK_pool) B.pre
  have hw : ∀ w ∈ gWd, w.before _ s = true := fun w h => hts w (List.mem_cons_of_mem _ h)
  have hown : s.vm.findClass RK = some m.cls := findClass_of_methodNamed B.named
  have hlk := B.notSynchronized
  have hS : va_S (gA sz) s.heap s.heap [] := va_S.rf
  have hH : gW D c sz ad k I J P LG LP s.heap := hH
  have hl := lv_entry ([.ref (ad (0, 0, 0)), .int a]) (n := 3) (Nat.le_of_ble_eq_true rfl)
  rw [lg_entry_eq]
  generalize (lg_sl ([.ref (ad (0, 0, 0)), .int a]) ++ List.replicate (3 - (lg_sl ([.ref (ad (0, 0, 0)), .int a])).length) Slot.unset).toArray = ls at hl ⊢
  have hl : lv_has ls 3 [(0, .ref (ad (0, 0, 0))), (1, .int a)] := hl
  refine lv_aload_n hx hb dK_pool_0 rfl (lv_at hl 0 rfl) ?_
  refine lv_iload_n hx hb dK_pool_1 rfl (lv_at hl 1 rfl) ?_
  refine s_cqE (va_runV (As := [.int _]) (rest := []) ⟨hx, hb, hml, hown, hw⟩ (c_K_livingGuest l  ) (cwV 1 hw (gd_V (gwd_3 (List.mem_of_getElem? (i := 3) rfl)) (gwd_3 (List.mem_of_getElem? (i := 4) rfl)) (gwd_9 (List.mem_of_getElem? (i := 14) rfl)) (gwd_0 (List.mem_of_getElem? (i := 1) rfl)) (gwd_3 (List.mem_of_getElem? (i := 5) rfl))) rfl rfl rfl (by decide +kernel) ⟨Nat.le_of_ble_eq_true rfl, Nat.le_of_ble_eq_true rfl⟩) (gPre.V (n := (0, 0, 0)) hK hH (by first | exact ⟨rfl, rfl⟩ | exact ⟨by assumption, rfl⟩ | exact ⟨by assumption, by assumption⟩ | exact ⟨by omega, rfl⟩ | exact ⟨by omega, by omega⟩ | exact ⟨by decide, rfl⟩) rfl rfl) rfl rfl hl.1 rfl (lv_room (Nat.le_of_ble_eq_true rfl)) dK_pool_2 ⟨Nat.zero_le _, Nat.zero_le _⟩) hS (fun H locs h_1 hH hS => ?_) (fun H locs g_2 h_1 hH hS => ?_)
  · skip
    refine lv_astore_nN hx hb dK_pool_5 rfl hl (by decide) rfl (fun ls hl => ?_)
    have hl : lv_has ls 3 [(2, .null), (0, .ref _), (1, .int _)] := hl
    refine lv_aload_nN hx hb dK_pool_6 rfl (lv_at hl 0 rfl) ?_
    refine lv_ifnonnullN hx hb dK_pool_7 ?_
    refine lv_iconst (v := -1) hx hb dK_pool_10 (by decide) ?_
    refine lv_goto hx hb dK_pool_11 rfl ?_
    exact r_i hx hb hr hlk hK hH hS dK_pool_18 (⟨by simp only [cPool, h_1], rfl⟩)
  · skip
    have hlt_g_2 : g_2 < k := sLiv_lt h_1
    refine lv_astore_n hx hb dK_pool_5 rfl hl (by decide) rfl (fun ls hl => ?_)
    have hl : lv_has ls 3 [(2, .ref _), (0, .ref _), (1, .int _)] := hl
    refine lv_aload_n hx hb dK_pool_6 rfl (lv_at hl 0 rfl) ?_
    refine lv_ifnonnull hx hb dK_pool_7 rfl ?_
    refine lv_aload_n hx hb dK_pool_14 rfl (lv_at hl 0 rfl) ?_
    refine s_ciE (va_runV (As := []) (rest := []) ⟨hx, hb, hml, hown, hw⟩ (c_G_poolSize l  (by assumption) (hPl)) (cwV 0 hw (gd_V (gwd_3 (List.mem_of_getElem? (i := 6) rfl)) (gwd_3 (List.mem_of_getElem? (i := 7) rfl)) (gwd_3 (List.mem_of_getElem? (i := 8) rfl)) (gwd_0 (List.mem_of_getElem? (i := 4) rfl)) (gwd_3 (List.mem_of_getElem? (i := 9) rfl))) rfl rfl rfl (by decide +kernel) ⟨Nat.le_of_ble_eq_true rfl, Nat.le_of_ble_eq_true rfl⟩) (gPre.V (n := (6, _, 0)) hK hH (by first | exact ⟨rfl, rfl⟩ | exact ⟨by assumption, rfl⟩ | exact ⟨by assumption, by assumption⟩ | exact ⟨by omega, rfl⟩ | exact ⟨by omega, by omega⟩ | exact ⟨by decide, rfl⟩) rfl rfl) rfl rfl hl.1 rfl (lv_room (Nat.le_of_ble_eq_true rfl)) dK_pool_15 ⟨Nat.zero_le _, Nat.zero_le _⟩) hS (fun H locs hH hS => ?_)
    exact r_i hx hb hr hlk hK hH hS dK_pool_18 (⟨by simp only [cPool, h_1], rfl⟩)
set_option maxHeartbeats 4000000 in
set_option maxRecDepth 100000 in
theorem c_K_tables (l : Launch) {D : va_G} {c : Nat → ClassId} {sz : Nat} {ad : gN → Nat} {k : Nat} {I J : gI} {P : gP} {LG : Option Nat} {LP : Option (Nat × Nat)} {a : Int32} (hPl : ∀ g a q, P g a = some q → q < 24) : Met l yK_tables wK_tables { frames := 3, cells := 0, slots := 0, locals := 66 } (gPre D c sz [.ref (ad (0, 0, 0)), .int a] (ad, k, I, J, P, LG, LP)) (va_Qi (fun r u => r = cTab I k P a ∧ u = (ad, k, I, J, P, LG, LP)) (gB D c sz) (gA sz)) 0 0 (gA sz) := by
  refine Met.ofW (cc := cK_tables) (maxL := 3) (ret := (some .int)) (by decide) rfl ?_
  intro p e s m args below meth cd s₁ B hml hv
  obtain ⟨rfl, hK, hH⟩ := hv
  have hx := B.exec
  have hb := B.bytes
  have hr := B.returns
  have hts := atoms_spec (ws := wK_tables) B.pre
  have hw : ∀ w ∈ gWd, w.before _ s = true := fun w h => hts w (List.mem_cons_of_mem _ h)
  have hown : s.vm.findClass RK = some m.cls := findClass_of_methodNamed B.named
  have hlk := B.notSynchronized
  have hS : va_S (gA sz) s.heap s.heap [] := va_S.rf
  have hH : gW D c sz ad k I J P LG LP s.heap := hH
  have hl := lv_entry ([.ref (ad (0, 0, 0)), .int a]) (n := 3) (Nat.le_of_ble_eq_true rfl)
  rw [lg_entry_eq]
  generalize (lg_sl ([.ref (ad (0, 0, 0)), .int a]) ++ List.replicate (3 - (lg_sl ([.ref (ad (0, 0, 0)), .int a])).length) Slot.unset).toArray = ls at hl ⊢
  have hl : lv_has ls 3 [(0, .ref (ad (0, 0, 0))), (1, .int a)] := hl
  refine lv_aload_n hx hb dK_tables_0 rfl (lv_at hl 0 rfl) ?_
  refine lv_iload_n hx hb dK_tables_1 rfl (lv_at hl 1 rfl) ?_
  refine s_cqE (va_runV (As := [.int _]) (rest := []) ⟨hx, hb, hml, hown, hw⟩ (c_K_livingGuest l  ) (cwV 1 hw (gd_V (gwd_3 (List.mem_of_getElem? (i := 3) rfl)) (gwd_3 (List.mem_of_getElem? (i := 4) rfl)) (gwd_9 (List.mem_of_getElem? (i := 14) rfl)) (gwd_0 (List.mem_of_getElem? (i := 1) rfl)) (gwd_3 (List.mem_of_getElem? (i := 5) rfl))) rfl rfl rfl (by decide +kernel) ⟨Nat.le_of_ble_eq_true rfl, Nat.le_of_ble_eq_true rfl⟩) (gPre.V (n := (0, 0, 0)) hK hH (by first | exact ⟨rfl, rfl⟩ | exact ⟨by assumption, rfl⟩ | exact ⟨by assumption, by assumption⟩ | exact ⟨by omega, rfl⟩ | exact ⟨by omega, by omega⟩ | exact ⟨by decide, rfl⟩) rfl rfl) rfl rfl hl.1 rfl (lv_room (Nat.le_of_ble_eq_true rfl)) dK_tables_2 ⟨Nat.zero_le _, Nat.zero_le _⟩) hS (fun H locs h_1 hH hS => ?_) (fun H locs g_2 h_1 hH hS => ?_)
  · skip
    refine lv_astore_nN hx hb dK_tables_5 rfl hl (by decide) rfl (fun ls hl => ?_)
    have hl : lv_has ls 3 [(2, .null), (0, .ref _), (1, .int _)] := hl
    refine lv_aload_nN hx hb dK_tables_6 rfl (lv_at hl 0 rfl) ?_
    refine lv_ifnonnullN hx hb dK_tables_7 ?_
    refine lv_iconst (v := -1) hx hb dK_tables_10 (by decide) ?_
    refine lv_goto hx hb dK_tables_11 rfl ?_
    exact r_i hx hb hr hlk hK hH hS dK_tables_18 (⟨by simp only [cTab, h_1], rfl⟩)
  · skip
    have hlt_g_2 : g_2 < k := sLiv_lt h_1
    refine lv_astore_n hx hb dK_tables_5 rfl hl (by decide) rfl (fun ls hl => ?_)
    have hl : lv_has ls 3 [(2, .ref _), (0, .ref _), (1, .int _)] := hl
    refine lv_aload_n hx hb dK_tables_6 rfl (lv_at hl 0 rfl) ?_
    refine lv_ifnonnull hx hb dK_tables_7 rfl ?_
    refine lv_aload_n hx hb dK_tables_14 rfl (lv_at hl 0 rfl) ?_
    refine s_ciE (va_runV (As := []) (rest := []) ⟨hx, hb, hml, hown, hw⟩ (c_G_countTables l  (by assumption) (hPl)) (cwV 0 hw (gd_V (gwd_5 (List.mem_of_getElem? (i := 33) rfl)) (gwd_3 (List.mem_of_getElem? (i := 11) rfl)) (gwd_3 (List.mem_of_getElem? (i := 12) rfl)) (gwd_0 (List.mem_of_getElem? (i := 4) rfl)) (gwd_3 (List.mem_of_getElem? (i := 13) rfl))) rfl rfl rfl (by decide +kernel) ⟨Nat.le_of_ble_eq_true rfl, Nat.le_of_ble_eq_true rfl⟩) (gPre.V (n := (6, _, 0)) hK hH (by first | exact ⟨rfl, rfl⟩ | exact ⟨by assumption, rfl⟩ | exact ⟨by assumption, by assumption⟩ | exact ⟨by omega, rfl⟩ | exact ⟨by omega, by omega⟩ | exact ⟨by decide, rfl⟩) rfl rfl) rfl rfl hl.1 rfl (lv_room (Nat.le_of_ble_eq_true rfl)) dK_tables_15 ⟨Nat.zero_le _, Nat.zero_le _⟩) hS (fun H locs hH hS => ?_)
    exact r_i hx hb hr hlk hK hH hS dK_tables_18 (⟨by simp only [cTab, h_1], rfl⟩)
