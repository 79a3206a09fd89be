theorem mOk_ix {x y : Int32} (h : mOk x y) : ∃ j i, j < 24 ∧ i < 4 ∧ x = nI j ∧ y = nI i := by
  obtain ⟨j, hj, rfl⟩ := isP_ix h.1
  obtain ⟨i, hi, rfl⟩ := ix_le 3 3 rfl (by decide) h.2.1 h.2.2
  exact ⟨j, i, hj, by omega, rfl, rfl⟩
theorem mTouch_ok {J : gI} {x y : Int32} (h : ¬ (mTouch J x y).1 = 0) : mOk x y := by
  by_cases z : mOk x y
  · exact z
  · rw [mTouch, if_neg z] at h
    exact absurd rfl h
theorem mTouch_01 {J : gI} {x y : Int32} (h01 : ∀ q, q < 24 → J (13, 6, 0) q = 0 ∨ J (13, 6, 0) q = 1) : (mTouch J x y).1 = 0 ∨ (mTouch J x y).1 = 1 := by
  by_cases z : mOk x y
  · obtain ⟨j, i, hj, -, rfl, -⟩ := mOk_ix z
    rw [mTouch, if_pos z, ix_nI (by omega)]
    show mTch J j (mb 6) j = 0 ∨ mTch J j (mb 6) j = 1
    unfold mTch
    split
    · simp only [iu_at, and_self, if_true]
      exact bz_01 _
    · exact h01 j hj
  · rw [mTouch, if_neg z]
    exact Or.inl rfl
set_option maxHeartbeats 4000000 in
set_option maxRecDepth 100000 in
theorem c_M_touch (l : Launch) {D : va_G} {c : Nat → ClassId} {sz : Nat} {ad : gN → Nat} {k : Nat} {I J : gI} {P : gP} {LG : Option Nat} {LP : Option (Nat × Nat)} {x y : Int32} (h01 : ∀ q, q < 24 → J (13, 6, 0) q = 0 ∨ J (13, 6, 0) q = 1) : Met l yM_touch wM_touch { frames := 1, cells := 0, slots := 0, locals := 21 } (gPre D c sz [.ref (ad (11, 0, 0)), .int x, .int y] (ad, k, I, J, P, LG, LP)) (va_Qi (fun r u => r = (mTouch J x y).1 ∧ u = (ad, k, I, (mTouch J x y).2, P, LG, LP)) (gB D c sz) (gA sz)) 0 0 (gA sz) := by
  refine Met.ofW (cc := cM_touch) (maxL := 3) (ret := (some .boolean)) (by decide) rfl ?_
  intro p e s m args below meth cd s₁ B hml hv
  obtain ⟨rfl, hK, hH⟩ := hv
  have hx := B.exec
  have hb := B.bytes
  have hr := B.returns
  have hts := atoms_spec (ws := wM_touch) B.pre
  have hw : ∀ w ∈ gWd, w.before _ s = true := fun w h => hts w (List.mem_cons_of_mem _ h)
  have hown : s.vm.findClass RM = some m.cls := findClass_of_methodNamed B.named
  have hlk := B.notSynchronized
  have hS : va_S (gA sz) s.heap s.heap [] := va_S.rf
  have hH : gW D c sz ad k I J P LG LP s.heap := hH
  have hl := lv_entry ([.ref (ad (11, 0, 0)), .int x, .int y]) (n := 3) (Nat.le_of_ble_eq_true rfl)
  rw [lg_entry_eq]
  generalize (lg_sl ([.ref (ad (11, 0, 0)), .int x, .int y]) ++ List.replicate (3 - (lg_sl ([.ref (ad (11, 0, 0)), .int x, .int y])).length) Slot.unset).toArray = ls at hl ⊢
  have hl : lv_has ls 3 [(0, .ref (ad (11, 0, 0))), (1, .int x), (2, .int y)] := hl
  refine lv_iload_n hx hb dM_touch_0 rfl (lv_at hl 1 rfl) ?_
  refine s_ciE (va_runS (As := [.int _]) (rest := []) ⟨hx, hb, hml, hown, hw⟩ (c_M_isPage l  ) (cwS 1 hw (gd_S (gwd_6 (List.mem_of_getElem? (i := 34) rfl)) (gwd_6 (List.mem_of_getElem? (i := 35) rfl)) (gwd_0 (List.mem_of_getElem? (i := 3) rfl)) (gwd_6 (List.mem_of_getElem? (i := 36) rfl))) rfl rfl rfl (by decide +kernel) ⟨Nat.le_of_ble_eq_true rfl, Nat.le_of_ble_eq_true rfl⟩) (gPre.S hK hH) rfl rfl hl.1 rfl (lv_room (Nat.le_of_ble_eq_true rfl)) dM_touch_1 ⟨Nat.zero_le _, Nat.zero_le _⟩) hS (fun H locs hH hS => ?_)
  refine s_ifeq hx hb dM_touch_4 rfl (fun h_1 => ?_) (fun h_1 => ?_)
  · skip
    refine lv_iconst (v := 0) hx hb dM_touch_16 (by decide) ?_
    exact r_z hx hb hr hlk hK hH hS dM_touch_17 (by first | exact Or.inl rfl | exact Or.inr rfl | exact bz_01 _ | assumption) (by rw [mTouch, if_neg (fun q => h_1 q.1)]; exact ⟨rfl, rfl⟩)
  · skip
    obtain ⟨j, hj, rfl⟩ := isP_ix h_1
    have hi : ix (nI j) = j := ix_nI (by omega)
    refine lv_iload_n hx hb dM_touch_7 rfl (lv_at hl 2 rfl) ?_
    refine lv_if_lt hx hb dM_touch_8 rfl (fun h_2 => ?_) (fun h_2 => ?_)
    · skip
      refine lv_iconst (v := 0) hx hb dM_touch_16 (by decide) ?_
      exact r_z hx hb hr hlk hK hH hS dM_touch_17 (by first | exact Or.inl rfl | exact Or.inr rfl | exact bz_01 _ | assumption) (by rw [mTouch, if_neg (fun q => q.2.1 h_2)]; exact ⟨rfl, rfl⟩)
    · skip
      refine lv_iload_n hx hb dM_touch_11 rfl (lv_at hl 2 rfl) ?_
      refine lv_iconst (v := 3) hx hb dM_touch_12 (by decide) ?_
      refine lv_icmp_le hx hb dM_touch_13 rfl (fun h_3 => ?_) (fun h_3 => ?_)
      · skip
        refine lv_aload_n hx hb dM_touch_18 rfl (lv_at hl 0 rfl) ?_
        refine s_get hx hb hw inM hown hK hH 6 (by decide) (hw _ (gwd_5 (List.mem_of_getElem? (i := 46) rfl))) (by first | exact ⟨rfl, rfl⟩ | exact ⟨by assumption, rfl⟩ | exact ⟨by assumption, by assumption⟩ | exact ⟨by omega, rfl⟩ | exact ⟨by omega, by omega⟩ | exact ⟨by decide, rfl⟩) rfl rfl rfl rfl dM_touch_19 ?_
        refine lv_iload_n hx hb dM_touch_22 rfl (lv_at hl 1 rfl) ?_
        refine m_zald hx hb hK hH (by first | exact ⟨rfl, rfl⟩ | exact ⟨by assumption, rfl⟩ | exact ⟨by assumption, by assumption⟩ | exact ⟨by omega, rfl⟩ | exact ⟨by omega, by omega⟩ | exact ⟨by decide, rfl⟩) rfl _ (by first | rfl | assumption) (show _ < 24 from by first | assumption | decide | omega) (by decide) dM_touch_23 ?_
        refine lv_if_ne hx hb dM_touch_24 rfl (fun h_4 => ?_) (fun h_4 => ?_)
        · skip
          refine lv_aload_n hx hb dM_touch_48 rfl (lv_at hl 0 rfl) ?_
          refine s_get hx hb hw inM hown hK hH 6 (by decide) (hw _ (gwd_5 (List.mem_of_getElem? (i := 46) rfl))) (by first | exact ⟨rfl, rfl⟩ | exact ⟨by assumption, rfl⟩ | exact ⟨by assumption, by assumption⟩ | exact ⟨by omega, rfl⟩ | exact ⟨by omega, by omega⟩ | exact ⟨by decide, rfl⟩) rfl rfl rfl rfl dM_touch_49 ?_
          refine lv_iload_n hx hb dM_touch_52 rfl (lv_at hl 1 rfl) ?_
          refine m_zald hx hb hK hH (by first | exact ⟨rfl, rfl⟩ | exact ⟨by assumption, rfl⟩ | exact ⟨by assumption, by assumption⟩ | exact ⟨by omega, rfl⟩ | exact ⟨by omega, by omega⟩ | exact ⟨by decide, rfl⟩) rfl _ (by first | rfl | assumption) (show _ < 24 from by first | assumption | decide | omega) (by decide) dM_touch_53 ?_
          try simp only [iu_at, and_self, if_true]
          exact r_z hx hb hr hlk hK hH hS dM_touch_54 (by first | exact h01 j hj | exact bz_01 _) (by rw [mTouch, if_pos ⟨h_1, h_2, h_3⟩, hi]; first | (rw [mTch, if_neg h_4]; exact ⟨rfl, rfl⟩) | (rw [mTch, if_pos h_4]; exact ⟨by simp [iu_at], rfl⟩))
        · skip
          refine lv_aload_n hx hb dM_touch_27 rfl (lv_at hl 0 rfl) ?_
          refine lv_dup hx hb dM_touch_28 rfl ?_
          refine s_get hx hb hw inM hown hK hH 16 (by decide) (hw _ (gwd_6 (List.mem_of_getElem? (i := 8) rfl))) (by first | exact ⟨rfl, rfl⟩ | exact ⟨by assumption, rfl⟩ | exact ⟨by assumption, by assumption⟩ | exact ⟨by omega, rfl⟩ | exact ⟨by omega, by omega⟩ | exact ⟨by decide, rfl⟩) rfl rfl rfl rfl dM_touch_29 ?_
          refine lv_iconst (v := 1) hx hb dM_touch_32 (by decide) ?_
          refine lv_iadd hx hb dM_touch_33 ?_
          refine m_put hx hb hw inM tyM_ok nM hown hK hH hS 16 (by decide) (hw _ (gwd_6 (List.mem_of_getElem? (i := 8) rfl))) (by first | exact ⟨rfl, rfl⟩ | exact ⟨by assumption, rfl⟩ | exact ⟨by assumption, by assumption⟩ | exact ⟨by omega, rfl⟩ | exact ⟨by omega, by omega⟩ | exact ⟨by decide, rfl⟩) rfl rfl rfl rfl rfl rfl rfl (Nat.le_of_ble_eq_true rfl) rfl dM_touch_34 (fun H locs hH hS => ?_)
          refine lv_aload_n hx hb dM_touch_37 rfl (lv_at hl 0 rfl) ?_
          refine s_get hx hb hw inM hown hK hH 6 (by decide) (hw _ (gwd_5 (List.mem_of_getElem? (i := 46) rfl))) (by first | exact ⟨rfl, rfl⟩ | exact ⟨by assumption, rfl⟩ | exact ⟨by assumption, by assumption⟩ | exact ⟨by omega, rfl⟩ | exact ⟨by omega, by omega⟩ | exact ⟨by decide, rfl⟩) rfl rfl rfl rfl dM_touch_38 ?_
          refine lv_iload_n hx hb dM_touch_41 rfl (lv_at hl 1 rfl) ?_
          refine lv_aload_n hx hb dM_touch_42 rfl (lv_at hl 0 rfl) ?_
          refine lv_iload_n hx hb dM_touch_43 rfl (lv_at hl 1 rfl) ?_
          refine s_ciE (va_runV (As := [.int _]) (rest := [.int _, .ref _]) ⟨hx, hb, hml, hown, hw⟩ (c_M_hostMay l  (by assumption)) (cwV 1 hw (gd_V (gwd_6 (List.mem_of_getElem? (i := 37) rfl)) (gwd_6 (List.mem_of_getElem? (i := 38) rfl)) (gwd_9 (List.mem_of_getElem? (i := 23) rfl)) (gwd_0 (List.mem_of_getElem? (i := 3) rfl)) (gwd_6 (List.mem_of_getElem? (i := 39) rfl))) rfl rfl rfl (by decide +kernel) ⟨Nat.le_of_ble_eq_true rfl, Nat.le_of_ble_eq_true rfl⟩) (gPre.V (n := (11, 0, 0)) hK hH (by first | exact ⟨rfl, rfl⟩ | exact ⟨by assumption, rfl⟩ | exact ⟨by assumption, by assumption⟩ | exact ⟨by omega, rfl⟩ | exact ⟨by omega, by omega⟩ | exact ⟨by decide, rfl⟩) rfl rfl) rfl rfl hl.1 rfl (lv_room (Nat.le_of_ble_eq_true rfl)) dM_touch_44 ⟨Nat.zero_le _, Nat.zero_le _⟩) hS (fun H locs hH hS => ?_)
          refine m_zast hx hb hK hH hS (by first | exact ⟨rfl, rfl⟩ | exact ⟨by assumption, rfl⟩ | exact ⟨by assumption, by assumption⟩ | exact ⟨by omega, rfl⟩ | exact ⟨by omega, by omega⟩ | exact ⟨by decide, rfl⟩) rfl _ (by first | rfl | assumption) (show _ < 24 from by first | assumption | decide | omega) (by decide) (by first | exact Or.inl rfl | exact Or.inr rfl | exact bz_01 _ | assumption) rfl dM_touch_47 (fun H locs hH hS => ?_)
          refine lv_aload_n hx hb dM_touch_48 rfl (lv_at hl 0 rfl) ?_
          refine s_get hx hb hw inM hown hK hH 6 (by decide) (hw _ (gwd_5 (List.mem_of_getElem? (i := 46) rfl))) (by first | exact ⟨rfl, rfl⟩ | exact ⟨by assumption, rfl⟩ | exact ⟨by assumption, by assumption⟩ | exact ⟨by omega, rfl⟩ | exact ⟨by omega, by omega⟩ | exact ⟨by decide, rfl⟩) rfl rfl rfl rfl dM_touch_49 ?_
          refine lv_iload_n hx hb dM_touch_52 rfl (lv_at hl 1 rfl) ?_
          refine m_zald hx hb hK hH (by first | exact ⟨rfl, rfl⟩ | exact ⟨by assumption, rfl⟩ | exact ⟨by assumption, by assumption⟩ | exact ⟨by omega, rfl⟩ | exact ⟨by omega, by omega⟩ | exact ⟨by decide, rfl⟩) rfl _ (by first | rfl | assumption) (show _ < 24 from by first | assumption | decide | omega) (by decide) dM_touch_53 ?_
          try simp only [iu_at, and_self, if_true]
          exact r_z hx hb hr hlk hK hH hS dM_touch_54 (by first | exact h01 j hj | exact bz_01 _) (by rw [mTouch, if_pos ⟨h_1, h_2, h_3⟩, hi]; first | (rw [mTch, if_neg h_4]; exact ⟨rfl, rfl⟩) | (rw [mTch, if_pos h_4]; exact ⟨by simp [iu_at], rfl⟩))
      · skip
        refine lv_iconst (v := 0) hx hb dM_touch_16 (by decide) ?_
        exact r_z hx hb hr hlk hK hH hS dM_touch_17 (by first | exact Or.inl rfl | exact Or.inr rfl | exact bz_01 _ | assumption) (by rw [mTouch, if_neg (fun q => h_3 q.2.2)]; exact ⟨rfl, rfl⟩)
set_option maxHeartbeats 4000000 in
set_option maxRecDepth 100000 in
theorem c_M_read (l : Launch) {D : va_G} {c : Nat → ClassId} {sz : Nat} {ad : gN → Nat} {k : Nat} {I J : gI} {P : gP} {LG : Option Nat} {LP : Option (Nat × Nat)} {x y : Int32} (h01 : ∀ q, q < 24 → J (13, 6, 0) q = 0 ∨ J (13, 6, 0) q = 1) : Met l yM_read wM_read { frames := 2, cells := 0, slots := 0, locals := 43 } (gPre D c sz [.ref (ad (11, 0, 0)), .int x, .int y] (ad, k, I, J, P, LG, LP)) (va_Ql (fun r u => r = (mRead J x y).1 ∧ u = (ad, k, I, (mRead J x y).2, P, LG, LP)) (gB D c sz) (gA sz)) 0 0 (gA sz) := by
  refine Met.ofW (cc := cM_read) (maxL := 3) (ret := (some .long)) (by decide) rfl ?_
  intro p e s m args below meth cd s₁ B hml hv
  obtain ⟨rfl, hK, hH⟩ := hv
  have hx := B.exec
  have hb := B.bytes
  have hr := B.returns
  have hts := atoms_spec (ws := wM_read) B.pre
  have hw : ∀ w ∈ gWd, w.before _ s = true := fun w h => hts w (List.mem_cons_of_mem _ h)
  have hown : s.vm.findClass RM = some m.cls := findClass_of_methodNamed B.named
  have hlk := B.notSynchronized
  have hS : va_S (gA sz) s.heap s.heap [] := va_S.rf
  have hH : gW D c sz ad k I J P LG LP s.heap := hH
  have hl := lv_entry ([.ref (ad (11, 0, 0)), .int x, .int y]) (n := 3) (Nat.le_of_ble_eq_true rfl)
  rw [lg_entry_eq]
  generalize (lg_sl ([.ref (ad (11, 0, 0)), .int x, .int y]) ++ List.replicate (3 - (lg_sl ([.ref (ad (11, 0, 0)), .int x, .int y])).length) Slot.unset).toArray = ls at hl ⊢
  have hl : lv_has ls 3 [(0, .ref (ad (11, 0, 0))), (1, .int x), (2, .int y)] := hl
  refine lv_aload_n hx hb dM_read_0 rfl (lv_at hl 0 rfl) ?_
  refine lv_iload_n hx hb dM_read_1 rfl (lv_at hl 1 rfl) ?_
  refine lv_iload_n hx hb dM_read_2 rfl (lv_at hl 2 rfl) ?_
  refine s_ciE (va_runV (As := [.int _, .int _]) (rest := []) ⟨hx, hb, hml, hown, hw⟩ (c_M_touch l  (h01)) (cwV 2 hw (gd_V (gwd_6 (List.mem_of_getElem? (i := 31) rfl)) (gwd_6 (List.mem_of_getElem? (i := 32) rfl)) (gwd_9 (List.mem_of_getElem? (i := 22) rfl)) (gwd_0 (List.mem_of_getElem? (i := 3) rfl)) (gwd_6 (List.mem_of_getElem? (i := 33) rfl))) rfl rfl rfl (by decide +kernel) ⟨Nat.le_of_ble_eq_true rfl, Nat.le_of_ble_eq_true rfl⟩) (gPre.V (n := (11, 0, 0)) hK hH (by first | exact ⟨rfl, rfl⟩ | exact ⟨by assumption, rfl⟩ | exact ⟨by assumption, by assumption⟩ | exact ⟨by omega, rfl⟩ | exact ⟨by omega, by omega⟩ | exact ⟨by decide, rfl⟩) rfl rfl) rfl rfl hl.1 rfl (lv_room (Nat.le_of_ble_eq_true rfl)) dM_read_3 ⟨Nat.zero_le _, Nat.zero_le _⟩) hS (fun H locs hH hS => ?_)
  refine lv_if_eq hx hb dM_read_6 rfl (fun h_1 => ?_) (fun h_1 => ?_)
  · skip
    refine lv_ldc2 (v := 1099511627776) hx hb hown (hw _ (gwd_6 (List.mem_of_getElem? (i := 40) rfl))) dM_read_23 ?_
    exact r_l hx hb hr hlk hK hH hS dM_read_26 (by first | (rw [mRead, if_pos h_1]; exact ⟨rfl, rfl⟩) | (rw [mRead, if_neg h_1, hi, hi2]; exact ⟨rfl, rfl⟩))
  · skip
    obtain ⟨j, i4, hj, hi4, rfl, rfl⟩ := mOk_ix (mTouch_ok h_1)
    have hi : ix (nI j) = j := ix_nI (by omega)
    have hi2 : ix (nI i4) = i4 := ix_nI (by omega)
    refine lv_aload_n hx hb dM_read_9 rfl (lv_at hl 0 rfl) ?_
    refine s_get hx hb hw inM hown hK hH 0 (by decide) (hw _ (gwd_5 (List.mem_of_getElem? (i := 40) rfl))) (by first | exact ⟨rfl, rfl⟩ | exact ⟨by assumption, rfl⟩ | exact ⟨by assumption, by assumption⟩ | exact ⟨by omega, rfl⟩ | exact ⟨by omega, by omega⟩ | exact ⟨by decide, rfl⟩) rfl rfl rfl rfl dM_read_10 ?_
    refine lv_iconst (v := 4) hx hb dM_read_13 (by decide) ?_
    refine lv_iload_n hx hb dM_read_14 rfl (lv_at hl 1 rfl) ?_
    refine lv_imul hx hb dM_read_15 ?_
    refine lv_iload_n hx hb dM_read_16 rfl (lv_at hl 2 rfl) ?_
    refine lv_iadd hx hb dM_read_17 ?_
    refine m_iald hx hb hK hH (by first | exact ⟨rfl, rfl⟩ | exact ⟨by assumption, rfl⟩ | exact ⟨by assumption, by assumption⟩ | exact ⟨by omega, rfl⟩ | exact ⟨by omega, by omega⟩ | exact ⟨by decide, rfl⟩) rfl (4 * j + i4) (idx4 j i4) (show _ < 96 from by first | assumption | decide | omega) (by decide) dM_read_18 ?_
    refine lv_i2l hx hb dM_read_19 rfl ?_
    refine lv_goto hx hb dM_read_20 rfl ?_
    exact r_l hx hb hr hlk hK hH hS dM_read_26 (by first | (rw [mRead, if_pos h_1]; exact ⟨rfl, rfl⟩) | (rw [mRead, if_neg h_1, hi, hi2]; exact ⟨rfl, rfl⟩))
set_option maxHeartbeats 4000000 in
set_option maxRecDepth 100000 in
theorem c_M_write (l : Launch) {D : va_G} {c : Nat → ClassId} {sz : Nat} {ad : gN → Nat} {k : Nat} {I J : gI} {P : gP} {LG : Option Nat} {LP : Option (Nat × Nat)} {x y z : Int32} (h01 : ∀ q, q < 24 → J (13, 6, 0) q = 0 ∨ J (13, 6, 0) q = 1) : Met l yM_write wM_write { frames := 2, cells := 0, slots := 0, locals := 43 } (gPre D c sz [.ref (ad (11, 0, 0)), .int x, .int y, .int z] (ad, k, I, J, P, LG, LP)) (va_Qi (fun r u => r = (mWrite J x y z).1 ∧ u = (ad, k, I, (mWrite J x y z).2, P, LG, LP)) (gB D c sz) (gA sz)) 0 0 (gA sz) := by
  refine Met.ofW (cc := cM_write) (maxL := 5) (ret := (some .boolean)) (by decide) rfl ?_
  intro p e s m args below meth cd s₁ B hml hv
  obtain ⟨rfl, hK, hH⟩ := hv
  have hx := B.exec
  have hb := B.bytes
  have hr := B.returns
  have hts := atoms_spec (ws := wM_write) B.pre
  have hw : ∀ w ∈ gWd, w.before _ s = true := fun w h => hts w (List.mem_cons_of_mem _ h)
  have hown : s.vm.findClass RM = some m.cls := findClass_of_methodNamed B.named
  have hlk := B.notSynchronized
  have hS : va_S (gA sz) s.heap s.heap [] := va_S.rf
  have hH : gW D c sz ad k I J P LG LP s.heap := hH
  have hl := lv_entry ([.ref (ad (11, 0, 0)), .int x, .int y, .int z]) (n := 5) (Nat.le_of_ble_eq_true rfl)
  rw [lg_entry_eq]
  generalize (lg_sl ([.ref (ad (11, 0, 0)), .int x, .int y, .int z]) ++ List.replicate (5 - (lg_sl ([.ref (ad (11, 0, 0)), .int x, .int y, .int z])).length) Slot.unset).toArray = ls at hl ⊢
  have hl : lv_has ls 5 [(0, .ref (ad (11, 0, 0))), (1, .int x), (2, .int y), (3, .int z)] := hl
  refine lv_aload_n hx hb dM_write_0 rfl (lv_at hl 0 rfl) ?_
  refine lv_iload_n hx hb dM_write_1 rfl (lv_at hl 1 rfl) ?_
  refine lv_iload_n hx hb dM_write_2 rfl (lv_at hl 2 rfl) ?_
  refine s_ciE (va_runV (As := [.int _, .int _]) (rest := []) ⟨hx, hb, hml, hown, hw⟩ (c_M_touch l  (h01)) (cwV 2 hw (gd_V (gwd_6 (List.mem_of_getElem? (i := 31) rfl)) (gwd_6 (List.mem_of_getElem? (i := 32) rfl)) (gwd_9 (List.mem_of_getElem? (i := 22) rfl)) (gwd_0 (List.mem_of_getElem? (i := 3) rfl)) (gwd_6 (List.mem_of_getElem? (i := 33) rfl))) rfl rfl rfl (by decide +kernel) ⟨Nat.le_of_ble_eq_true rfl, Nat.le_of_ble_eq_true rfl⟩) (gPre.V (n := (11, 0, 0)) hK hH (by first | exact ⟨rfl, rfl⟩ | exact ⟨by assumption, rfl⟩ | exact ⟨by assumption, by assumption⟩ | exact ⟨by omega, rfl⟩ | exact ⟨by omega, by omega⟩ | exact ⟨by decide, rfl⟩) rfl rfl) rfl rfl hl.1 rfl (lv_room (Nat.le_of_ble_eq_true rfl)) dM_write_3 ⟨Nat.zero_le _, Nat.zero_le _⟩) hS (fun H locs hH hS => ?_)
  refine lv_istore hx hb dM_write_6 hl (by decide) rfl (fun ls hl => ?_)
  have hl : lv_has ls 5 [(4, .int _), (0, .ref _), (1, .int _), (2, .int _), (3, .int _)] := hl
  refine lv_iload hx hb dM_write_8 (lv_at hl 0 rfl) ?_
  refine lv_if_eq hx hb dM_write_10 rfl (fun h_1 => ?_) (fun h_1 => ?_)
  · skip
    refine lv_iload hx hb dM_write_24 (lv_at hl 0 rfl) ?_
    exact r_z hx hb hr hlk hK hH hS dM_write_26 (mTouch_01 h01) (by first | (rw [mWrite, if_pos h_1]; exact ⟨rfl, rfl⟩) | (rw [mWrite, if_neg h_1, hi, hi2]; exact ⟨rfl, rfl⟩))
  · skip
    obtain ⟨j, i4, hj, hi4, rfl, rfl⟩ := mOk_ix (mTouch_ok h_1)
    have hi : ix (nI j) = j := ix_nI (by omega)
    have hi2 : ix (nI i4) = i4 := ix_nI (by omega)
    refine lv_aload_n hx hb dM_write_13 rfl (lv_at hl 1 rfl) ?_
    refine s_get hx hb hw inM hown hK hH 0 (by decide) (hw _ (gwd_5 (List.mem_of_getElem? (i := 40) rfl))) (by first | exact ⟨rfl, rfl⟩ | exact ⟨by assumption, rfl⟩ | exact ⟨by assumption, by assumption⟩ | exact ⟨by omega, rfl⟩ | exact ⟨by omega, by omega⟩ | exact ⟨by decide, rfl⟩) rfl rfl rfl rfl dM_write_14 ?_
    refine lv_iconst (v := 4) hx hb dM_write_17 (by decide) ?_
    refine lv_iload_n hx hb dM_write_18 rfl (lv_at hl 2 rfl) ?_
    refine lv_imul hx hb dM_write_19 ?_
    refine lv_iload_n hx hb dM_write_20 rfl (lv_at hl 3 rfl) ?_
    refine lv_iadd hx hb dM_write_21 ?_
    refine lv_iload_n hx hb dM_write_22 rfl (lv_at hl 4 rfl) ?_
    refine m_iast hx hb hK hH hS (by first | exact ⟨rfl, rfl⟩ | exact ⟨by assumption, rfl⟩ | exact ⟨by assumption, by assumption⟩ | exact ⟨by omega, rfl⟩ | exact ⟨by omega, by omega⟩ | exact ⟨by decide, rfl⟩) rfl (4 * j + i4) (idx4 j i4) (show _ < 96 from by first | assumption | decide | omega) (by decide) rfl dM_write_23 (fun H locs hH hS => ?_)
    refine lv_iload hx hb dM_write_24 (lv_at hl 0 rfl) ?_
    exact r_z hx hb hr hlk hK hH hS dM_write_26 (mTouch_01 h01) (by first | (rw [mWrite, if_pos h_1]; exact ⟨rfl, rfl⟩) | (rw [mWrite, if_neg h_1, hi, hi2]; exact ⟨rfl, rfl⟩))
set_option maxHeartbeats 4000000 in
set_option maxRecDepth 100000 in
theorem c_M_faults (l : Launch) {D : va_G} {c : Nat → ClassId} {sz : Nat} {ad : gN → Nat} {k : Nat} {I J : gI} {P : gP} {LG : Option Nat} {LP : Option (Nat × Nat)}   : Met l yM_faults wM_faults { frames := 0, cells := 0, slots := 0, locals := 0 } (gPre D c sz [.ref (ad (11, 0, 0))] (ad, k, I, J, P, LG, LP)) (va_Qi (fun r u => r = J (11, 0, 0) 16 ∧ u = (ad, k, I, J, P, LG, LP)) (gB D c sz) (gA sz)) 0 0 (gA sz) := by
  refine Met.ofW (cc := cM_faults) (maxL := 1) (ret := (some .int)) (by decide) rfl ?_
  intro p e s m args below meth cd s₁ B hml hv
  obtain ⟨rfl, hK, hH⟩ := hv
  have hx := B.exec
  have hb := B.bytes
  have hr := B.returns
  have hts := atoms_spec (ws := wM_faults) B.pre
  have hw : ∀ w ∈ gWd, w.before _ s = true := fun w h => hts w (List.mem_cons_of_mem _ h)
  have hown : s.vm.findClass RM = some m.cls := findClass_of_methodNamed B.named
  have hlk := B.notSynchronized
  have hS : va_S (gA sz) s.heap s.heap [] := va_S.rf
  have hH : gW D c sz ad k I J P LG LP s.heap := hH
  have hl := lv_entry ([.ref (ad (11, 0, 0))]) (n := 1) (Nat.le_of_ble_eq_true rfl)
  rw [lg_entry_eq]
  generalize (lg_sl ([.ref (ad (11, 0, 0))]) ++ List.replicate (1 - (lg_sl ([.ref (ad (11, 0, 0))])).length) Slot.unset).toArray = ls at hl ⊢
  have hl : lv_has ls 1 [(0, .ref (ad (11, 0, 0)))] := hl
  refine lv_aload_n hx hb dM_faults_0 rfl (lv_at hl 0 rfl) ?_
  refine s_get hx hb hw inM hown hK hH 16 (by decide) (hw _ (gwd_6 (List.mem_of_getElem? (i := 8) rfl))) (by first | exact ⟨rfl, rfl⟩ | exact ⟨by assumption, rfl⟩ | exact ⟨by assumption, by assumption⟩ | exact ⟨by omega, rfl⟩ | exact ⟨by omega, by omega⟩ | exact ⟨by decide, rfl⟩) rfl rfl rfl rfl dM_faults_1 ?_
  exact r_i hx hb hr hlk hK hH hS dM_faults_4 (⟨rfl, rfl⟩)
set_option maxHeartbeats 4000000 in
set_option maxRecDepth 100000 in
theorem c_M_info (l : Launch) {D : va_G} {c : Nat → ClassId} {sz : Nat} {ad : gN → Nat} {k : Nat} {I J : gI} {P : gP} {LG : Option Nat} {LP : Option (Nat × Nat)}   : Met l yM_info wM_info { frames := 0, cells := 0, slots := 0, locals := 0 } (gPre D c sz [.ref (ad (11, 0, 0))] (ad, k, I, J, P, LG, LP)) (va_Qi (fun r u => r = J (11, 0, 0) 14 ∧ u = (ad, k, I, J, P, LG, LP)) (gB D c sz) (gA sz)) 0 0 (gA sz) := by
  refine Met.ofW (cc := cM_info) (maxL := 1) (ret := (some .int)) (by decide) rfl ?_
  intro p e s m args below meth cd s₁ B hml hv
  obtain ⟨rfl, hK, hH⟩ := hv
  have hx := B.exec
  have hb := B.bytes
  have hr := B.returns
  have hts := atoms_spec (ws := wM_info) B.pre
  have hw : ∀ w ∈ gWd, w.before _ s = true := fun w h => hts w (List.mem_cons_of_mem _ h)
  have hown : s.vm.findClass RM = some m.cls := findClass_of_methodNamed B.named
  have hlk := B.notSynchronized
  have hS : va_S (gA sz) s.heap s.heap [] := va_S.rf
  have hH : gW D c sz ad k I J P LG LP s.heap := hH
  have hl := lv_entry ([.ref (ad (11, 0, 0))]) (n := 1) (Nat.le_of_ble_eq_true rfl)
  rw [lg_entry_eq]
  generalize (lg_sl ([.ref (ad (11, 0, 0))]) ++ List.replicate (1 - (lg_sl ([.ref (ad (11, 0, 0))])).length) Slot.unset).toArray = ls at hl ⊢
  have hl : lv_has ls 1 [(0, .ref (ad (11, 0, 0)))] := hl
  refine lv_aload_n hx hb dM_info_0 rfl (lv_at hl 0 rfl) ?_
  refine s_get hx hb hw inM hown hK hH 14 (by decide) (hw _ (gwd_6 (List.mem_of_getElem? (i := 6) rfl))) (by first | exact ⟨rfl, rfl⟩ | exact ⟨by assumption, rfl⟩ | exact ⟨by assumption, by assumption⟩ | exact ⟨by omega, rfl⟩ | exact ⟨by omega, by omega⟩ | exact ⟨by decide, rfl⟩) rfl rfl rfl rfl dM_info_1 ?_
  exact r_i hx hb hr hlk hK hH hS dM_info_4 (⟨rfl, rfl⟩)
set_option maxHeartbeats 4000000 in
set_option maxRecDepth 100000 in
theorem c_M_keep (l : Launch) {D : va_G} {c : Nat → ClassId} {sz : Nat} {ad : gN → Nat} {k : Nat} {I J : gI} {P : gP} {LG : Option Nat} {LP : Option (Nat × Nat)} {q : Nat} {G : Int32} (hq : q < 24) : Met l yM_keep wM_keep { frames := 2, cells := 0, slots := 0, locals := 42 } (gPre D c sz [.ref (ad (11, 0, 0)), .int (nI q), .int G] (ad, k, I, J, P, LG, LP)) (va_Qv (fun u => u = (ad, k, I, mKeep J q G, P, LG, LP)) (gB D c sz) (gA sz)) 0 0 (gA sz) := by
  refine Met.ofW (cc := cM_keep) (maxL := 3) (ret := none) (by decide) rfl ?_
  intro p e s m args below meth cd s₁ B hml hv
  obtain ⟨rfl, hK, hH⟩ := hv
  have hx := B.exec
  have hb := B.bytes
  have hr := B.returns
  have hts := atoms_spec (ws := wM_keep) B.pre
  have hw : ∀ w ∈ gWd, w.before _ s = true := fun w h => hts w (List.mem_cons_of_mem _ h)
  have hown : s.vm.findClass RM = some m.cls := findClass_of_methodNamed B.named
  have hlk := B.notSynchronized
  have hS : va_S (gA sz) s.heap s.heap [] := va_S.rf
  have hH : gW D c sz ad k I J P LG LP s.heap := hH
  have hl := lv_entry ([.ref (ad (11, 0, 0)), .int (nI q), .int G]) (n := 3) (Nat.le_of_ble_eq_true rfl)
  rw [lg_entry_eq]
  generalize (lg_sl ([.ref (ad (11, 0, 0)), .int (nI q), .int G]) ++ List.replicate (3 - (lg_sl ([.ref (ad (11, 0, 0)), .int (nI q), .int G])).length) Slot.unset).toArray = ls at hl ⊢
  have hl : lv_has ls 3 [(0, .ref (ad (11, 0, 0))), (1, .int (nI q)), (2, .int G)] := hl
  refine lv_aload_n hx hb dM_keep_0 rfl (lv_at hl 0 rfl) ?_
  refine s_get hx hb hw inM hown hK hH 1 (by decide) (hw _ (gwd_5 (List.mem_of_getElem? (i := 41) rfl))) (by first | exact ⟨rfl, rfl⟩ | exact ⟨by assumption, rfl⟩ | exact ⟨by assumption, by assumption⟩ | exact ⟨by omega, rfl⟩ | exact ⟨by omega, by omega⟩ | exact ⟨by decide, rfl⟩) rfl rfl rfl rfl dM_keep_1 ?_
  refine lv_iload_n hx hb dM_keep_4 rfl (lv_at hl 1 rfl) ?_
  refine lv_bipush (v := 7) hx hb dM_keep_5 (by decide) ?_
  refine m_iast hx hb hK hH hS (by first | exact ⟨rfl, rfl⟩ | exact ⟨by assumption, rfl⟩ | exact ⟨by assumption, by assumption⟩ | exact ⟨by omega, rfl⟩ | exact ⟨by omega, by omega⟩ | exact ⟨by decide, rfl⟩) rfl _ (by first | rfl | assumption) (show _ < 24 from by first | assumption | decide | omega) (by decide) rfl dM_keep_7 (fun H locs hH hS => ?_)
  refine lv_aload_n hx hb dM_keep_8 rfl (lv_at hl 0 rfl) ?_
  refine s_get hx hb hw inM hown hK hH 2 (by decide) (hw _ (gwd_5 (List.mem_of_getElem? (i := 42) rfl))) (by first | exact ⟨rfl, rfl⟩ | exact ⟨by assumption, rfl⟩ | exact ⟨by assumption, by assumption⟩ | exact ⟨by omega, rfl⟩ | exact ⟨by omega, by omega⟩ | exact ⟨by decide, rfl⟩) rfl rfl rfl rfl dM_keep_9 ?_
  refine lv_iload_n hx hb dM_keep_12 rfl (lv_at hl 1 rfl) ?_
  refine lv_iload_n hx hb dM_keep_13 rfl (lv_at hl 2 rfl) ?_
  refine m_iast hx hb hK hH hS (by first | exact ⟨rfl, rfl⟩ | exact ⟨by assumption, rfl⟩ | exact ⟨by assumption, by assumption⟩ | exact ⟨by omega, rfl⟩ | exact ⟨by omega, by omega⟩ | exact ⟨by decide, rfl⟩) rfl _ (by first | rfl | assumption) (show _ < 24 from by first | assumption | decide | omega) (by decide) rfl dM_keep_14 (fun H locs hH hS => ?_)
  refine lv_aload_n hx hb dM_keep_15 rfl (lv_at hl 0 rfl) ?_
  refine lv_iload_n hx hb dM_keep_16 rfl (lv_at hl 1 rfl) ?_
  refine s_cvE (va_runV (As := [.int _]) (rest := []) ⟨hx, hb, hml, hown, hw⟩ (c_M_wipe l  (by assumption)) (cwV 1 hw (gd_V (gwd_7 (List.mem_of_getElem? (i := 11) rfl)) (gwd_7 (List.mem_of_getElem? (i := 12) rfl)) (gwd_9 (List.mem_of_getElem? (i := 26) rfl)) (gwd_0 (List.mem_of_getElem? (i := 3) rfl)) (gwd_7 (List.mem_of_getElem? (i := 13) rfl))) rfl rfl rfl (by decide +kernel) ⟨Nat.le_of_ble_eq_true rfl, Nat.le_of_ble_eq_true rfl⟩) (gPre.V (n := (11, 0, 0)) hK hH (by first | exact ⟨rfl, rfl⟩ | exact ⟨by assumption, rfl⟩ | exact ⟨by assumption, by assumption⟩ | exact ⟨by omega, rfl⟩ | exact ⟨by omega, by omega⟩ | exact ⟨by decide, rfl⟩) rfl rfl) rfl rfl hl.1 rfl (lv_room (Nat.le_of_ble_eq_true rfl)) dM_keep_17 ⟨Nat.zero_le _, Nat.zero_le _⟩) hS (fun H locs hH hS => ?_)
  refine lv_aload_n hx hb dM_keep_20 rfl (lv_at hl 0 rfl) ?_
  refine lv_iload_n hx hb dM_keep_21 rfl (lv_at hl 1 rfl) ?_
  refine s_cvE (va_runV (As := [.int _]) (rest := []) ⟨hx, hb, hml, hown, hw⟩ (c_M_look l  (by assumption)) (cwV 1 hw (gd_V (gwd_7 (List.mem_of_getElem? (i := 14) rfl)) (gwd_7 (List.mem_of_getElem? (i := 15) rfl)) (gwd_9 (List.mem_of_getElem? (i := 27) rfl)) (gwd_0 (List.mem_of_getElem? (i := 3) rfl)) (gwd_7 (List.mem_of_getElem? (i := 16) rfl))) rfl rfl rfl (by decide +kernel) ⟨Nat.le_of_ble_eq_true rfl, Nat.le_of_ble_eq_true rfl⟩) (gPre.V (n := (11, 0, 0)) hK hH (by first | exact ⟨rfl, rfl⟩ | exact ⟨by assumption, rfl⟩ | exact ⟨by assumption, by assumption⟩ | exact ⟨by omega, rfl⟩ | exact ⟨by omega, by omega⟩ | exact ⟨by decide, rfl⟩) rfl rfl) rfl rfl hl.1 rfl (lv_room (Nat.le_of_ble_eq_true rfl)) dM_keep_22 ⟨Nat.zero_le _, Nat.zero_le _⟩) hS (fun H locs hH hS => ?_)
  exact r_v hx hb hr hlk hK hH hS dM_keep_25 (rfl)
theorem mKeep_made {J : gI} {q : Nat} {G : Int32} : mKeep J q G (11, 0, 0) 7 = J (11, 0, 0) 7 := by simp [mKeep, mLook, mWipe, iu_at]
set_option maxHeartbeats 4000000 in
set_option maxRecDepth 100000 in
theorem c_M_create (l : Launch) {D : va_G} {c : Nat → ClassId} {sz : Nat} {ad : gN → Nat} {k : Nat} {I J : gI} {P : gP} {LG : Option Nat} {LP : Option (Nat × Nat)} {K : Nat} {x : Int32} (hk : K ≤ 6) (hmd : J (11, 0, 0) 7 = nI K) : Met l yM_create wM_create { frames := 3, cells := 0, slots := 0, locals := 64 } (gPre D c sz [.ref (ad (11, 0, 0)), .int x] (ad, k, I, J, P, LG, LP)) (va_Qi (fun r u => r = (mCreate J x).1 ∧ u = (ad, k, I, (mCreate J x).2, P, LG, LP)) (gB D c sz) (gA sz)) 0 0 (gA sz) := by
  refine Met.ofW (cc := cM_create) (maxL := 2) (ret := (some .int)) (by decide) rfl ?_
  intro p e s m args below meth cd s₁ B hml hv
  obtain ⟨rfl, hK, hH⟩ := hv
  have hx := B.exec
  have hb := B.bytes
  have hr := B.returns
  have hts := atoms_spec (ws := wM_create) B.pre
  have hw : ∀ w ∈ gWd, w.before _ s = true := fun w h => hts w (List.mem_cons_of_mem _ h)
  have hown : s.vm.findClass RM = some m.cls := findClass_of_methodNamed B.named
  have hlk := B.notSynchronized
  have hS : va_S (gA sz) s.heap s.heap [] := va_S.rf
  have hH : gW D c sz ad k I J P LG LP s.heap := hH
  have hl := lv_entry ([.ref (ad (11, 0, 0)), .int x]) (n := 2) (Nat.le_of_ble_eq_true rfl)
  rw [lg_entry_eq]
  generalize (lg_sl ([.ref (ad (11, 0, 0)), .int x]) ++ List.replicate (2 - (lg_sl ([.ref (ad (11, 0, 0)), .int x])).length) Slot.unset).toArray = ls at hl ⊢
  have hl : lv_has ls 2 [(0, .ref (ad (11, 0, 0))), (1, .int x)] := hl
  refine lv_aload_n hx hb dM_create_0 rfl (lv_at hl 0 rfl) ?_
  refine lv_iload_n hx hb dM_create_1 rfl (lv_at hl 1 rfl) ?_
  refine s_ciE (va_runV (As := [.int _]) (rest := []) ⟨hx, hb, hml, hown, hw⟩ (c_M_isFree l  ) (cwV 1 hw (gd_V (gwd_7 (List.mem_of_getElem? (i := 5) rfl)) (gwd_7 (List.mem_of_getElem? (i := 6) rfl)) (gwd_9 (List.mem_of_getElem? (i := 24) rfl)) (gwd_0 (List.mem_of_getElem? (i := 3) rfl)) (gwd_7 (List.mem_of_getElem? (i := 7) rfl))) rfl rfl rfl (by decide +kernel) ⟨Nat.le_of_ble_eq_true rfl, Nat.le_of_ble_eq_true rfl⟩) (gPre.V (n := (11, 0, 0)) hK hH (by first | exact ⟨rfl, rfl⟩ | exact ⟨by assumption, rfl⟩ | exact ⟨by assumption, by assumption⟩ | exact ⟨by omega, rfl⟩ | exact ⟨by omega, by omega⟩ | exact ⟨by decide, rfl⟩) rfl rfl) rfl rfl hl.1 rfl (lv_room (Nat.le_of_ble_eq_true rfl)) dM_create_2 ⟨Nat.zero_le _, Nat.zero_le _⟩) hS (fun H locs hH hS => ?_)
  refine s_ifne hx hb dM_create_5 rfl (fun h_1 => ?_) (fun h_1 => ?_)
  · skip
    obtain ⟨j, hj, rfl⟩ := isP_ix (h_1).1
    have hi : ix (nI j) = j := ix_nI (by omega)
    refine lv_aload_n hx hb dM_create_10 rfl (lv_at hl 0 rfl) ?_
    refine s_get hx hb hw inM hown hK hH 7 (by decide) (hw _ (gwd_5 (List.mem_of_getElem? (i := 47) rfl))) (by first | exact ⟨rfl, rfl⟩ | exact ⟨by assumption, rfl⟩ | exact ⟨by assumption, by assumption⟩ | exact ⟨by omega, rfl⟩ | exact ⟨by omega, by omega⟩ | exact ⟨by decide, rfl⟩) rfl rfl rfl rfl dM_create_11 ?_
    refine lv_bipush (v := 6) hx hb dM_create_14 (by decide) ?_
    refine lv_icmp_lt hx hb dM_create_16 rfl (fun h_2 => ?_) (fun h_2 => ?_)
    · skip
      have hk6 : K < 6 := (nI_ltI (by omega) (by decide)).mp (show nI K < nI 6 by rw [← hmd]; exact h_2)
      have eE : iu (iu J (11, 0, 0) 7 (J (11, 0, 0) 7 + 1)) (13, 8, 0) (K + 1) 1 (11, 0, 0) 7 = J (11, 0, 0) 7 + 1 := by simp [iu_at]
      have hixk : ix (J (11, 0, 0) 7 + 1) = K + 1 := by rw [hmd, nI_1]; exact ix_nI (by omega)
      refine lv_aload_n hx hb dM_create_22 rfl (lv_at hl 0 rfl) ?_
      refine lv_dup hx hb dM_create_23 rfl ?_
      refine s_get hx hb hw inM hown hK hH 7 (by decide) (hw _ (gwd_5 (List.mem_of_getElem? (i := 47) rfl))) (by first | exact ⟨rfl, rfl⟩ | exact ⟨by assumption, rfl⟩ | exact ⟨by assumption, by assumption⟩ | exact ⟨by omega, rfl⟩ | exact ⟨by omega, by omega⟩ | exact ⟨by decide, rfl⟩) rfl rfl rfl rfl dM_create_24 ?_
      refine lv_iconst (v := 1) hx hb dM_create_27 (by decide) ?_
      refine lv_iadd hx hb dM_create_28 ?_
      refine m_put hx hb hw inM tyM_ok nM hown hK hH hS 7 (by decide) (hw _ (gwd_5 (List.mem_of_getElem? (i := 47) rfl))) (by first | exact ⟨rfl, rfl⟩ | exact ⟨by assumption, rfl⟩ | exact ⟨by assumption, by assumption⟩ | exact ⟨by omega, rfl⟩ | exact ⟨by omega, by omega⟩ | exact ⟨by decide, rfl⟩) rfl rfl rfl rfl rfl rfl rfl (Nat.le_of_ble_eq_true rfl) rfl dM_create_29 (fun H locs hH hS => ?_)
      refine lv_aload_n hx hb dM_create_32 rfl (lv_at hl 0 rfl) ?_
      refine s_get hx hb hw inM hown hK hH 8 (by decide) (hw _ (gwd_6 (List.mem_of_getElem? (i := 0) rfl))) (by first | exact ⟨rfl, rfl⟩ | exact ⟨by assumption, rfl⟩ | exact ⟨by assumption, by assumption⟩ | exact ⟨by omega, rfl⟩ | exact ⟨by omega, by omega⟩ | exact ⟨by decide, rfl⟩) rfl rfl rfl rfl dM_create_33 ?_
      refine lv_aload_n hx hb dM_create_36 rfl (lv_at hl 0 rfl) ?_
      refine s_get hx hb hw inM hown hK hH 7 (by decide) (hw _ (gwd_5 (List.mem_of_getElem? (i := 47) rfl))) (by first | exact ⟨rfl, rfl⟩ | exact ⟨by assumption, rfl⟩ | exact ⟨by assumption, by assumption⟩ | exact ⟨by omega, rfl⟩ | exact ⟨by omega, by omega⟩ | exact ⟨by decide, rfl⟩) rfl rfl rfl rfl dM_create_37 ?_
      refine lv_iconst (v := 1) hx hb dM_create_40 (by decide) ?_
      refine m_zast hx hb hK hH hS (by first | exact ⟨rfl, rfl⟩ | exact ⟨by assumption, rfl⟩ | exact ⟨by assumption, by assumption⟩ | exact ⟨by omega, rfl⟩ | exact ⟨by omega, by omega⟩ | exact ⟨by decide, rfl⟩) rfl (K + 1) (by simp only [iu_at, and_self, if_true, hmd]; exact nI_1 K) (show _ < 7 from by first | assumption | decide | omega) (by decide) (by first | exact Or.inl rfl | exact Or.inr rfl | exact bz_01 _ | assumption) rfl dM_create_41 (fun H locs hH hS => ?_)
      refine lv_aload_n hx hb dM_create_42 rfl (lv_at hl 0 rfl) ?_
      refine lv_iload_n hx hb dM_create_43 rfl (lv_at hl 1 rfl) ?_
      refine lv_aload_n hx hb dM_create_44 rfl (lv_at hl 0 rfl) ?_
      refine s_get hx hb hw inM hown hK hH 7 (by decide) (hw _ (gwd_5 (List.mem_of_getElem? (i := 47) rfl))) (by first | exact ⟨rfl, rfl⟩ | exact ⟨by assumption, rfl⟩ | exact ⟨by assumption, by assumption⟩ | exact ⟨by omega, rfl⟩ | exact ⟨by omega, by omega⟩ | exact ⟨by decide, rfl⟩) rfl rfl rfl rfl dM_create_45 ?_
      rw [eE]
      refine s_cvE (va_runV (As := [.int _, .int _]) (rest := []) ⟨hx, hb, hml, hown, hw⟩ (c_M_keep l  (by assumption)) (cwV 2 hw (gd_V (gwd_7 (List.mem_of_getElem? (i := 8) rfl)) (gwd_7 (List.mem_of_getElem? (i := 9) rfl)) (gwd_9 (List.mem_of_getElem? (i := 25) rfl)) (gwd_0 (List.mem_of_getElem? (i := 3) rfl)) (gwd_7 (List.mem_of_getElem? (i := 10) rfl))) rfl rfl rfl (by decide +kernel) ⟨Nat.le_of_ble_eq_true rfl, Nat.le_of_ble_eq_true rfl⟩) (gPre.V (n := (11, 0, 0)) hK hH (by first | exact ⟨rfl, rfl⟩ | exact ⟨by assumption, rfl⟩ | exact ⟨by assumption, by assumption⟩ | exact ⟨by omega, rfl⟩ | exact ⟨by omega, by omega⟩ | exact ⟨by decide, rfl⟩) rfl rfl) rfl rfl hl.1 rfl (lv_room (Nat.le_of_ble_eq_true rfl)) dM_create_48 ⟨Nat.zero_le _, Nat.zero_le _⟩) hS (fun H locs hH hS => ?_)
      refine lv_aload_n hx hb dM_create_51 rfl (lv_at hl 0 rfl) ?_
      refine s_get hx hb hw inM hown hK hH 7 (by decide) (hw _ (gwd_5 (List.mem_of_getElem? (i := 47) rfl))) (by first | exact ⟨rfl, rfl⟩ | exact ⟨by assumption, rfl⟩ | exact ⟨by assumption, by assumption⟩ | exact ⟨by omega, rfl⟩ | exact ⟨by omega, by omega⟩ | exact ⟨by decide, rfl⟩) rfl rfl rfl rfl dM_create_52 ?_
      exact r_i hx hb hr hlk hK hH hS dM_create_55 (by first | (rw [mCreate, if_neg (fun q => q h_1), if_pos h_2]; exact ⟨rfl, rfl⟩) | (rw [mCreate, if_neg (fun q => q h_1), if_neg (fun q => q h_2), hi, hixk]; exact ⟨by rw [mKeep_made, eE], rfl⟩))
    · skip
      refine lv_bipush (v := -2) hx hb dM_create_19 (by decide) ?_
      exact r_i hx hb hr hlk hK hH hS dM_create_21 (by first | (rw [mCreate, if_neg (fun q => q h_1), if_pos h_2]; exact ⟨rfl, rfl⟩) | (rw [mCreate, if_neg (fun q => q h_1), if_neg (fun q => q h_2), hi, hixk]; exact ⟨by rw [mKeep_made, eE], rfl⟩))
  · skip
    refine lv_iconst (v := -1) hx hb dM_create_8 (by decide) ?_
    exact r_i hx hb hr hlk hK hH hS dM_create_9 (by rw [mCreate, if_pos h_1]; exact ⟨rfl, rfl⟩)
set_option maxHeartbeats 4000000 in
set_option maxRecDepth 100000 in
theorem c_M_feed (l : Launch) {D : va_G} {c : Nat → ClassId} {sz : Nat} {ad : gN → Nat} {k : Nat} {I J : gI} {P : gP} {LG : Option Nat} {LP : Option (Nat × Nat)} {a x : Int32} (hk : k ≤ 6) (hmd : J (11, 0, 0) 7 = nI k) : Met l yM_feed wM_feed { frames := 3, cells := 0, slots := 0, locals := 71 } (gPre D c sz [.ref (ad (11, 0, 0)), .int a, .int x] (ad, k, I, J, P, LG, LP)) (va_Qi (fun r u => r = (mFeed J a x).1 ∧ u = (ad, k, I, (mFeed J a x).2, P, LG, LP)) (gB D c sz) (gA sz)) 0 0 (gA sz) := by
  refine Met.ofW (cc := cM_feed) (maxL := 3) (ret := (some .int)) (by decide) rfl ?_
  intro p e s m args below meth cd s₁ B hml hv
  obtain ⟨rfl, hK, hH⟩ := hv
  have hx := B.exec
  have hb := B.bytes
  have hr := B.returns
  have hts := atoms_spec (ws := wM_feed) B.pre
  have hw : ∀ w ∈ gWd, w.before _ s = true := fun w h => hts w (List.mem_cons_of_mem _ h)
  have hown : s.vm.findClass RM = some m.cls := findClass_of_methodNamed B.named
  have hlk := B.notSynchronized
  have hS : va_S (gA sz) s.heap s.heap [] := va_S.rf
  have hH : gW D c sz ad k I J P LG LP s.heap := hH
  have hl := lv_entry ([.ref (ad (11, 0, 0)), .int a, .int x]) (n := 3) (Nat.le_of_ble_eq_true rfl)
  rw [lg_entry_eq]
  generalize (lg_sl ([.ref (ad (11, 0, 0)), .int a, .int x]) ++ List.replicate (3 - (lg_sl ([.ref (ad (11, 0, 0)), .int a, .int x])).length) Slot.unset).toArray = ls at hl ⊢
  have hl : lv_has ls 3 [(0, .ref (ad (11, 0, 0))), (1, .int a), (2, .int x)] := hl
  refine lv_aload_n hx hb dM_feed_0 rfl (lv_at hl 0 rfl) ?_
  refine lv_iload_n hx hb dM_feed_1 rfl (lv_at hl 1 rfl) ?_
  refine s_ciE (va_runV (As := [.int _]) (rest := []) ⟨hx, hb, hml, hown, hw⟩ (c_M_isGuest l  (by assumption) (by assumption)) (cwV 1 hw (gd_V (gwd_7 (List.mem_of_getElem? (i := 21) rfl)) (gwd_7 (List.mem_of_getElem? (i := 22) rfl)) (gwd_9 (List.mem_of_getElem? (i := 28) rfl)) (gwd_0 (List.mem_of_getElem? (i := 3) rfl)) (gwd_7 (List.mem_of_getElem? (i := 23) rfl))) rfl rfl rfl (by decide +kernel) ⟨Nat.le_of_ble_eq_true rfl, Nat.le_of_ble_eq_true rfl⟩) (gPre.V (n := (11, 0, 0)) hK hH (by first | exact ⟨rfl, rfl⟩ | exact ⟨by assumption, rfl⟩ | exact ⟨by assumption, by assumption⟩ | exact ⟨by omega, rfl⟩ | exact ⟨by omega, by omega⟩ | exact ⟨by decide, rfl⟩) rfl rfl) rfl rfl hl.1 rfl (lv_room (Nat.le_of_ble_eq_true rfl)) dM_feed_2 ⟨Nat.zero_le _, Nat.zero_le _⟩) hS (fun H locs hH hS => ?_)
  refine s_ifne hx hb dM_feed_5 rfl (fun h_1 => ?_) (fun h_1 => ?_)
  · skip
    refine lv_aload_n hx hb dM_feed_10 rfl (lv_at hl 0 rfl) ?_
    refine lv_iload_n hx hb dM_feed_11 rfl (lv_at hl 2 rfl) ?_
    refine s_ciE (va_runV (As := [.int _]) (rest := []) ⟨hx, hb, hml, hown, hw⟩ (c_M_isFree l  ) (cwV 1 hw (gd_V (gwd_7 (List.mem_of_getElem? (i := 5) rfl)) (gwd_7 (List.mem_of_getElem? (i := 6) rfl)) (gwd_9 (List.mem_of_getElem? (i := 24) rfl)) (gwd_0 (List.mem_of_getElem? (i := 3) rfl)) (gwd_7 (List.mem_of_getElem? (i := 7) rfl))) rfl rfl rfl (by decide +kernel) ⟨Nat.le_of_ble_eq_true rfl, Nat.le_of_ble_eq_true rfl⟩) (gPre.V (n := (11, 0, 0)) hK hH (by first | exact ⟨rfl, rfl⟩ | exact ⟨by assumption, rfl⟩ | exact ⟨by assumption, by assumption⟩ | exact ⟨by omega, rfl⟩ | exact ⟨by omega, by omega⟩ | exact ⟨by decide, rfl⟩) rfl rfl) rfl rfl hl.1 rfl (lv_room (Nat.le_of_ble_eq_true rfl)) dM_feed_12 ⟨Nat.zero_le _, Nat.zero_le _⟩) hS (fun H locs hH hS => ?_)
    refine s_ifne hx hb dM_feed_15 rfl (fun h_2 => ?_) (fun h_2 => ?_)
    · skip
      obtain ⟨j, hj, rfl⟩ := isP_ix (h_2).1
      have hi : ix (nI j) = j := ix_nI (by omega)
      refine lv_aload_n hx hb dM_feed_21 rfl (lv_at hl 0 rfl) ?_
      refine lv_iload_n hx hb dM_feed_22 rfl (lv_at hl 2 rfl) ?_
      refine lv_iload_n hx hb dM_feed_23 rfl (lv_at hl 1 rfl) ?_
      refine s_cvE (va_runV (As := [.int _, .int _]) (rest := []) ⟨hx, hb, hml, hown, hw⟩ (c_M_keep l  (by assumption)) (cwV 2 hw (gd_V (gwd_7 (List.mem_of_getElem? (i := 8) rfl)) (gwd_7 (List.mem_of_getElem? (i := 9) rfl)) (gwd_9 (List.mem_of_getElem? (i := 25) rfl)) (gwd_0 (List.mem_of_getElem? (i := 3) rfl)) (gwd_7 (List.mem_of_getElem? (i := 10) rfl))) rfl rfl rfl (by decide +kernel) ⟨Nat.le_of_ble_eq_true rfl, Nat.le_of_ble_eq_true rfl⟩) (gPre.V (n := (11, 0, 0)) hK hH (by first | exact ⟨rfl, rfl⟩ | exact ⟨by assumption, rfl⟩ | exact ⟨by assumption, by assumption⟩ | exact ⟨by omega, rfl⟩ | exact ⟨by omega, by omega⟩ | exact ⟨by decide, rfl⟩) rfl rfl) rfl rfl hl.1 rfl (lv_room (Nat.le_of_ble_eq_true rfl)) dM_feed_24 ⟨Nat.zero_le _, Nat.zero_le _⟩) hS (fun H locs hH hS => ?_)
      refine lv_aload_n hx hb dM_feed_27 rfl (lv_at hl 0 rfl) ?_
      refine lv_iload_n hx hb dM_feed_28 rfl (lv_at hl 1 rfl) ?_
      refine s_ciE (va_runV (As := [.int _]) (rest := []) ⟨hx, hb, hml, hown, hw⟩ (c_M_rest l  ) (cwV 1 hw (gd_V (gwd_7 (List.mem_of_getElem? (i := 24) rfl)) (gwd_7 (List.mem_of_getElem? (i := 25) rfl)) (gwd_9 (List.mem_of_getElem? (i := 29) rfl)) (gwd_0 (List.mem_of_getElem? (i := 3) rfl)) (gwd_7 (List.mem_of_getElem? (i := 26) rfl))) rfl rfl rfl (by decide +kernel) ⟨Nat.le_of_ble_eq_true rfl, Nat.le_of_ble_eq_true rfl⟩) (gPre.V (n := (11, 0, 0)) hK hH (by first | exact ⟨rfl, rfl⟩ | exact ⟨by assumption, rfl⟩ | exact ⟨by assumption, by assumption⟩ | exact ⟨by omega, rfl⟩ | exact ⟨by omega, by omega⟩ | exact ⟨by decide, rfl⟩) rfl rfl) rfl rfl hl.1 rfl (lv_room (Nat.le_of_ble_eq_true rfl)) dM_feed_29 ⟨Nat.zero_le _, Nat.zero_le _⟩) hS (fun H locs hH hS => ?_)
      exact r_i hx hb hr hlk hK hH hS dM_feed_32 (by first | (rw [mFeed, if_pos h_1]; exact ⟨rfl, rfl⟩) | (rw [mFeed, if_neg (fun q => q h_1), if_pos h_2]; exact ⟨rfl, rfl⟩) | (rw [mFeed, if_neg (fun q => q h_1), if_neg (fun q => q h_2), hi]; exact ⟨rfl, rfl⟩))
    · skip
      refine lv_bipush (v := -2) hx hb dM_feed_18 (by decide) ?_
      exact r_i hx hb hr hlk hK hH hS dM_feed_20 (by first | (rw [mFeed, if_pos h_1]; exact ⟨rfl, rfl⟩) | (rw [mFeed, if_neg (fun q => q h_1), if_pos h_2]; exact ⟨rfl, rfl⟩) | (rw [mFeed, if_neg (fun q => q h_1), if_neg (fun q => q h_2), hi]; exact ⟨rfl, rfl⟩))
  · skip
    refine lv_iconst (v := -1) hx hb dM_feed_8 (by decide) ?_
    exact r_i hx hb hr hlk hK hH hS dM_feed_9 (by first | (rw [mFeed, if_pos h_1]; exact ⟨rfl, rfl⟩) | (rw [mFeed, if_neg (fun q => q h_1), if_pos rfl]; exact ⟨rfl, rfl⟩) | (rw [mFeed, if_neg (fun q => q h_1), if_neg (fun q => q rfl), hi]; exact ⟨rfl, rfl⟩))
set_option maxHeartbeats 4000000 in
set_option maxRecDepth 100000 in
theorem c_M_refusal (l : Launch) {D : va_G} {c : Nat → ClassId} {sz : Nat} {ad : gN → Nat} {k : Nat} {I J : gI} {P : gP} {LG : Option Nat} {LP : Option (Nat × Nat)} {a x y : Int32} (hk : k ≤ 6) (hmd : J (11, 0, 0) 7 = nI k) : Met l yM_refusal wM_refusal { frames := 3, cells := 0, slots := 0, locals := 71 } (gPre D c sz [.ref (ad (11, 0, 0)), .int a, .int x, .int y] (ad, k, I, J, P, LG, LP)) (va_Qi (fun r u => r = mRef J a x y ∧ u = (ad, k, I, J, P, LG, LP)) (gB D c sz) (gA sz)) 0 0 (gA sz) := by
  refine Met.ofW (cc := cM_refusal) (maxL := 5) (ret := (some .int)) (by decide) rfl ?_
  intro p e s m args below meth cd s₁ B hml hv
  obtain ⟨rfl, hK, hH⟩ := hv
  have hx := B.exec
  have hb := B.bytes
  have hr := B.returns
  have hts := atoms_spec (ws := wM_refusal) B.pre
  have hw : ∀ w ∈ gWd, w.before _ s = true := fun w h => hts w (List.mem_cons_of_mem _ h)
  have hown : s.vm.findClass RM = some m.cls := findClass_of_methodNamed B.named
  have hlk := B.notSynchronized
  have hS : va_S (gA sz) s.heap s.heap [] := va_S.rf
  have hH : gW D c sz ad k I J P LG LP s.heap := hH
  have hl := lv_entry ([.ref (ad (11, 0, 0)), .int a, .int x, .int y]) (n := 5) (Nat.le_of_ble_eq_true rfl)
  rw [lg_entry_eq]
  generalize (lg_sl ([.ref (ad (11, 0, 0)), .int a, .int x, .int y]) ++ List.replicate (5 - (lg_sl ([.ref (ad (11, 0, 0)), .int a, .int x, .int y])).length) Slot.unset).toArray = ls at hl ⊢
  have hl : lv_has ls 5 [(0, .ref (ad (11, 0, 0))), (1, .int a), (2, .int x), (3, .int y)] := hl
  refine lv_aload_n hx hb dM_refusal_0 rfl (lv_at hl 0 rfl) ?_
  refine lv_iload_n hx hb dM_refusal_1 rfl (lv_at hl 1 rfl) ?_
  refine s_ciE (va_runV (As := [.int _]) (rest := []) ⟨hx, hb, hml, hown, hw⟩ (c_M_isGuest l  (by assumption) (by assumption)) (cwV 1 hw (gd_V (gwd_7 (List.mem_of_getElem? (i := 21) rfl)) (gwd_7 (List.mem_of_getElem? (i := 22) rfl)) (gwd_9 (List.mem_of_getElem? (i := 28) rfl)) (gwd_0 (List.mem_of_getElem? (i := 3) rfl)) (gwd_7 (List.mem_of_getElem? (i := 23) rfl))) rfl rfl rfl (by decide +kernel) ⟨Nat.le_of_ble_eq_true rfl, Nat.le_of_ble_eq_true rfl⟩) (gPre.V (n := (11, 0, 0)) hK hH (by first | exact ⟨rfl, rfl⟩ | exact ⟨by assumption, rfl⟩ | exact ⟨by assumption, by assumption⟩ | exact ⟨by omega, rfl⟩ | exact ⟨by omega, by omega⟩ | exact ⟨by decide, rfl⟩) rfl rfl) rfl rfl hl.1 rfl (lv_room (Nat.le_of_ble_eq_true rfl)) dM_refusal_2 ⟨Nat.zero_le _, Nat.zero_le _⟩) hS (fun H locs hH hS => ?_)
  refine s_ifne hx hb dM_refusal_5 rfl (fun h_1 => ?_) (fun h_1 => ?_)
  · skip
    refine lv_aload_n hx hb dM_refusal_10 rfl (lv_at hl 0 rfl) ?_
    refine lv_iload_n hx hb dM_refusal_11 rfl (lv_at hl 2 rfl) ?_
    refine s_ciE (va_runV (As := [.int _]) (rest := []) ⟨hx, hb, hml, hown, hw⟩ (c_M_isFree l  ) (cwV 1 hw (gd_V (gwd_7 (List.mem_of_getElem? (i := 5) rfl)) (gwd_7 (List.mem_of_getElem? (i := 6) rfl)) (gwd_9 (List.mem_of_getElem? (i := 24) rfl)) (gwd_0 (List.mem_of_getElem? (i := 3) rfl)) (gwd_7 (List.mem_of_getElem? (i := 7) rfl))) rfl rfl rfl (by decide +kernel) ⟨Nat.le_of_ble_eq_true rfl, Nat.le_of_ble_eq_true rfl⟩) (gPre.V (n := (11, 0, 0)) hK hH (by first | exact ⟨rfl, rfl⟩ | exact ⟨by assumption, rfl⟩ | exact ⟨by assumption, by assumption⟩ | exact ⟨by omega, rfl⟩ | exact ⟨by omega, by omega⟩ | exact ⟨by decide, rfl⟩) rfl rfl) rfl rfl hl.1 rfl (lv_room (Nat.le_of_ble_eq_true rfl)) dM_refusal_12 ⟨Nat.zero_le _, Nat.zero_le _⟩) hS (fun H locs hH hS => ?_)
    refine s_ifne hx hb dM_refusal_15 rfl (fun h_2 => ?_) (fun h_2 => ?_)
    · skip
      refine lv_iload_n hx hb dM_refusal_21 rfl (lv_at hl 3 rfl) ?_
      refine lv_if_lt hx hb dM_refusal_22 rfl (fun h_3 => ?_) (fun h_3 => ?_)
      · skip
        refine lv_bipush (v := -3) hx hb dM_refusal_40 (by decide) ?_
        exact r_i hx hb hr hlk hK hH hS dM_refusal_42 (⟨by rw [mRef, if_neg (fun q => q h_1), if_neg (fun q => q h_2), if_pos (Or.inl h_3)], rfl⟩)
      · skip
        refine lv_iload_n hx hb dM_refusal_25 rfl (lv_at hl 3 rfl) ?_
        refine lv_bipush (v := 63) hx hb dM_refusal_26 (by decide) ?_
        refine lv_icmp_gt hx hb dM_refusal_28 rfl (fun h_4 => ?_) (fun h_4 => ?_)
        · skip
          refine lv_bipush (v := -3) hx hb dM_refusal_40 (by decide) ?_
          exact r_i hx hb hr hlk hK hH hS dM_refusal_42 (⟨by rw [mRef, if_neg (fun q => q h_1), if_neg (fun q => q h_2), if_pos (Or.inr (Or.inl h_4))], rfl⟩)
        · skip
          refine lv_aload_n hx hb dM_refusal_31 rfl (lv_at hl 0 rfl) ?_
          refine lv_iload_n hx hb dM_refusal_32 rfl (lv_at hl 1 rfl) ?_
          refine lv_iload_n hx hb dM_refusal_33 rfl (lv_at hl 3 rfl) ?_
          refine s_ciE (va_runV (As := [.int _, .int _]) (rest := []) ⟨hx, hb, hml, hown, hw⟩ (c_M_held l  ) (cwV 2 hw (gd_V (gwd_7 (List.mem_of_getElem? (i := 40) rfl)) (gwd_7 (List.mem_of_getElem? (i := 41) rfl)) (gwd_9 (List.mem_of_getElem? (i := 33) rfl)) (gwd_0 (List.mem_of_getElem? (i := 3) rfl)) (gwd_7 (List.mem_of_getElem? (i := 42) rfl))) rfl rfl rfl (by decide +kernel) ⟨Nat.le_of_ble_eq_true rfl, Nat.le_of_ble_eq_true rfl⟩) (gPre.V (n := (11, 0, 0)) hK hH (by first | exact ⟨rfl, rfl⟩ | exact ⟨by assumption, rfl⟩ | exact ⟨by assumption, by assumption⟩ | exact ⟨by omega, rfl⟩ | exact ⟨by omega, by omega⟩ | exact ⟨by decide, rfl⟩) rfl rfl) rfl rfl hl.1 rfl (lv_room (Nat.le_of_ble_eq_true rfl)) dM_refusal_34 ⟨Nat.zero_le _, Nat.zero_le _⟩) hS (fun H locs hH hS => ?_)
          refine lv_if_lt hx hb dM_refusal_37 rfl (fun h_5 => ?_) (fun h_5 => ?_)
          · skip
            refine lv_aload_n hx hb dM_refusal_43 rfl (lv_at hl 0 rfl) ?_
            refine lv_iload_n hx hb dM_refusal_44 rfl (lv_at hl 1 rfl) ?_
            refine lv_iload_n hx hb dM_refusal_45 rfl (lv_at hl 3 rfl) ?_
            refine s_ciE (va_runV (As := [.int _, .int _]) (rest := []) ⟨hx, hb, hml, hown, hw⟩ (c_M_count l  ) (cwV 2 hw (gd_V (gwd_7 (List.mem_of_getElem? (i := 27) rfl)) (gwd_7 (List.mem_of_getElem? (i := 28) rfl)) (gwd_9 (List.mem_of_getElem? (i := 30) rfl)) (gwd_0 (List.mem_of_getElem? (i := 3) rfl)) (gwd_7 (List.mem_of_getElem? (i := 29) rfl))) rfl rfl rfl (by decide +kernel) ⟨Nat.le_of_ble_eq_true rfl, Nat.le_of_ble_eq_true rfl⟩) (gPre.V (n := (11, 0, 0)) hK hH (by first | exact ⟨rfl, rfl⟩ | exact ⟨by assumption, rfl⟩ | exact ⟨by assumption, by assumption⟩ | exact ⟨by omega, rfl⟩ | exact ⟨by omega, by omega⟩ | exact ⟨by decide, rfl⟩) rfl rfl) rfl rfl hl.1 rfl (lv_room (Nat.le_of_ble_eq_true rfl)) dM_refusal_46 ⟨Nat.zero_le _, Nat.zero_le _⟩) hS (fun H locs hH hS => ?_)
            refine lv_aload_n hx hb dM_refusal_49 rfl (lv_at hl 0 rfl) ?_
            refine lv_iload_n hx hb dM_refusal_50 rfl (lv_at hl 1 rfl) ?_
            refine lv_iconst (v := -1) hx hb dM_refusal_51 (by decide) ?_
            refine s_ciE (va_runV (As := [.int _, .int _]) (rest := [.int _]) ⟨hx, hb, hml, hown, hw⟩ (c_M_count l  ) (cwV 2 hw (gd_V (gwd_7 (List.mem_of_getElem? (i := 27) rfl)) (gwd_7 (List.mem_of_getElem? (i := 28) rfl)) (gwd_9 (List.mem_of_getElem? (i := 30) rfl)) (gwd_0 (List.mem_of_getElem? (i := 3) rfl)) (gwd_7 (List.mem_of_getElem? (i := 29) rfl))) rfl rfl rfl (by decide +kernel) ⟨Nat.le_of_ble_eq_true rfl, Nat.le_of_ble_eq_true rfl⟩) (gPre.V (n := (11, 0, 0)) hK hH (by first | exact ⟨rfl, rfl⟩ | exact ⟨by assumption, rfl⟩ | exact ⟨by assumption, by assumption⟩ | exact ⟨by omega, rfl⟩ | exact ⟨by omega, by omega⟩ | exact ⟨by decide, rfl⟩) rfl rfl) rfl rfl hl.1 rfl (lv_room (Nat.le_of_ble_eq_true rfl)) dM_refusal_52 ⟨Nat.zero_le _, Nat.zero_le _⟩) hS (fun H locs hH hS => ?_)
            refine lv_isub hx hb dM_refusal_55 ?_
            refine lv_istore hx hb dM_refusal_56 hl (by decide) rfl (fun ls hl => ?_)
            have hl : lv_has ls 5 [(4, .int _), (0, .ref _), (1, .int _), (2, .int _), (3, .int _)] := hl
            refine lv_iload hx hb dM_refusal_58 (lv_at hl 0 rfl) ?_
            refine lv_aload_n hx hb dM_refusal_60 rfl (lv_at hl 1 rfl) ?_
            refine lv_iload_n hx hb dM_refusal_61 rfl (lv_at hl 2 rfl) ?_
            refine s_ciE (va_runV (As := [.int _]) (rest := [.int _]) ⟨hx, hb, hml, hown, hw⟩ (c_M_rest l  ) (cwV 1 hw (gd_V (gwd_7 (List.mem_of_getElem? (i := 24) rfl)) (gwd_7 (List.mem_of_getElem? (i := 25) rfl)) (gwd_9 (List.mem_of_getElem? (i := 29) rfl)) (gwd_0 (List.mem_of_getElem? (i := 3) rfl)) (gwd_7 (List.mem_of_getElem? (i := 26) rfl))) rfl rfl rfl (by decide +kernel) ⟨Nat.le_of_ble_eq_true rfl, Nat.le_of_ble_eq_true rfl⟩) (gPre.V (n := (11, 0, 0)) hK hH (by first | exact ⟨rfl, rfl⟩ | exact ⟨by assumption, rfl⟩ | exact ⟨by assumption, by assumption⟩ | exact ⟨by omega, rfl⟩ | exact ⟨by omega, by omega⟩ | exact ⟨by decide, rfl⟩) rfl rfl) rfl rfl hl.1 rfl (lv_room (Nat.le_of_ble_eq_true rfl)) dM_refusal_62 ⟨Nat.zero_le _, Nat.zero_le _⟩) hS (fun H locs hH hS => ?_)
            refine lv_icmp_le hx hb dM_refusal_65 rfl (fun h_6 => ?_) (fun h_6 => ?_)
            · skip
              refine lv_iconst (v := 0) hx hb dM_refusal_73 (by decide) ?_
              exact r_i hx hb hr hlk hK hH hS dM_refusal_74 (⟨by first | rw [mRef, if_neg (fun q => q h_1), if_neg (fun q => q h_2), if_neg (fun q => q.elim h_3 (fun q => q.elim h_4 (fun q => q h_5))), if_pos h_6] | rw [mRef, if_neg (fun q => q h_1), if_neg (fun q => q h_2), if_neg (fun q => q.elim h_3 (fun q => q.elim h_4 (fun q => q h_5))), if_neg h_6], rfl⟩)
            · skip
              refine lv_bipush (v := -4) hx hb dM_refusal_68 (by decide) ?_
              refine lv_goto hx hb dM_refusal_70 rfl ?_
              exact r_i hx hb hr hlk hK hH hS dM_refusal_74 (⟨by first | rw [mRef, if_neg (fun q => q h_1), if_neg (fun q => q h_2), if_neg (fun q => q.elim h_3 (fun q => q.elim h_4 (fun q => q h_5))), if_pos h_6] | rw [mRef, if_neg (fun q => q h_1), if_neg (fun q => q h_2), if_neg (fun q => q.elim h_3 (fun q => q.elim h_4 (fun q => q h_5))), if_neg h_6], rfl⟩)
          · skip
            refine lv_bipush (v := -3) hx hb dM_refusal_40 (by decide) ?_
            exact r_i hx hb hr hlk hK hH hS dM_refusal_42 (⟨by rw [mRef, if_neg (fun q => q h_1), if_neg (fun q => q h_2), if_pos (Or.inr (Or.inr h_5))], rfl⟩)
    · skip
      refine lv_bipush (v := -2) hx hb dM_refusal_18 (by decide) ?_
      exact r_i hx hb hr hlk hK hH hS dM_refusal_20 (⟨by rw [mRef, if_neg (fun q => q h_1), if_pos h_2], rfl⟩)
  · skip
    refine lv_iconst (v := -1) hx hb dM_refusal_8 (by decide) ?_
    exact r_i hx hb hr hlk hK hH hS dM_refusal_9 (⟨by rw [mRef, if_pos h_1], rfl⟩)
theorem mRef_nn {J : gI} {a x y : Int32} (h : ¬ mRef J a x y < 0) : mGst J a ∧ mFree J x ∧ ¬ y < 0 ∧ ¬ 63 < y ∧ mHeld J a y < 0 ∧ mCnt J a y - mCnt J a (-1) ≤ mRest J a ∧ mRef J a x y = 0 := by
  unfold mRef at h ⊢
  by_cases h1 : mGst J a
  · rw [if_neg (fun q => q h1)] at h ⊢
    by_cases h2 : mFree J x
    · rw [if_neg (fun q => q h2)] at h ⊢
      by_cases h3 : y < 0 ∨ 63 < y ∨ ¬ mHeld J a y < 0
      · rw [if_pos h3] at h
        exact absurd (by decide) h
      · rw [if_neg h3] at h ⊢
        by_cases h4 : mCnt J a y - mCnt J a (-1) ≤ mRest J a
        · refine ⟨h1, h2, fun q => h3 (Or.inl q), fun q => h3 (Or.inr (Or.inl q)), ?_, h4, by rw [if_pos h4]⟩
          by_cases h5 : mHeld J a y < 0
          · exact h5
          · exact absurd (Or.inr (Or.inr h5)) h3
        · rw [if_neg h4] at h
          exact absurd (by decide) h
    · rw [if_pos h2] at h
      exact absurd (by decide) h
  · rw [if_pos h1] at h
    exact absurd (by decide) h
set_option maxHeartbeats 4000000 in
set_option maxRecDepth 100000 in
theorem c_M_donate (l : Launch) {D : va_G} {c : Nat → ClassId} {sz : Nat} {ad : gN → Nat} {k : Nat} {I J : gI} {P : gP} {LG : Option Nat} {LP : Option (Nat × Nat)} {a x y : Int32} (hk : k ≤ 6) (hmd : J (11, 0, 0) 7 = nI k) : Met l yM_donate wM_donate { frames := 4, cells := 0, slots := 0, locals := 95 } (gPre D c sz [.ref (ad (11, 0, 0)), .int a, .int x, .int y] (ad, k, I, J, P, LG, LP)) (va_Qi (fun r u => r = (mDonate J a x y).1 ∧ u = (ad, k, I, (mDonate J a x y).2, P, LG, LP)) (gB D c sz) (gA sz)) 0 0 (gA sz) := by
  refine Met.ofW (cc := cM_donate) (maxL := 5) (ret := (some .int)) (by decide) rfl ?_
  intro p e s m args below meth cd s₁ B hml hv
  obtain ⟨rfl, hK, hH⟩ := hv
  have hx := B.exec
  have hb := B.bytes
  have hr := B.returns
  have hts := atoms_spec (ws := wM_donate) B.pre
  have hw : ∀ w ∈ gWd, w.before _ s = true := fun w h => hts w (List.mem_cons_of_mem _ h)
  have hown : s.vm.findClass RM = some m.cls := findClass_of_methodNamed B.named
  have hlk := B.notSynchronized
  have hS : va_S (gA sz) s.heap s.heap [] := va_S.rf
  have hH : gW D c sz ad k I J P LG LP s.heap := hH
  have hl := lv_entry ([.ref (ad (11, 0, 0)), .int a, .int x, .int y]) (n := 5) (Nat.le_of_ble_eq_true rfl)
  rw [lg_entry_eq]
  generalize (lg_sl ([.ref (ad (11, 0, 0)), .int a, .int x, .int y]) ++ List.replicate (5 - (lg_sl ([.ref (ad (11, 0, 0)), .int a, .int x, .int y])).length) Slot.unset).toArray = ls at hl ⊢
  have hl : lv_has ls 5 [(0, .ref (ad (11, 0, 0))), (1, .int a), (2, .int x), (3, .int y)] := hl
  refine lv_aload_n hx hb dM_donate_0 rfl (lv_at hl 0 rfl) ?_
  refine lv_iload_n hx hb dM_donate_1 rfl (lv_at hl 1 rfl) ?_
  refine lv_iload_n hx hb dM_donate_2 rfl (lv_at hl 2 rfl) ?_
  refine lv_iload_n hx hb dM_donate_3 rfl (lv_at hl 3 rfl) ?_
  refine s_ciE (va_runV (As := [.int _, .int _, .int _]) (rest := []) ⟨hx, hb, hml, hown, hw⟩ (c_M_refusal l  (by assumption) (by assumption)) (cwV 3 hw (gd_V (gwd_7 (List.mem_of_getElem? (i := 37) rfl)) (gwd_7 (List.mem_of_getElem? (i := 38) rfl)) (gwd_9 (List.mem_of_getElem? (i := 32) rfl)) (gwd_0 (List.mem_of_getElem? (i := 3) rfl)) (gwd_7 (List.mem_of_getElem? (i := 39) rfl))) rfl rfl rfl (by decide +kernel) ⟨Nat.le_of_ble_eq_true rfl, Nat.le_of_ble_eq_true rfl⟩) (gPre.V (n := (11, 0, 0)) hK hH (by first | exact ⟨rfl, rfl⟩ | exact ⟨by assumption, rfl⟩ | exact ⟨by assumption, by assumption⟩ | exact ⟨by omega, rfl⟩ | exact ⟨by omega, by omega⟩ | exact ⟨by decide, rfl⟩) rfl rfl) rfl rfl hl.1 rfl (lv_room (Nat.le_of_ble_eq_true rfl)) dM_donate_4 ⟨Nat.zero_le _, Nat.zero_le _⟩) hS (fun H locs hH hS => ?_)
  refine lv_istore hx hb dM_donate_7 hl (by decide) rfl (fun ls hl => ?_)
  have hl : lv_has ls 5 [(4, .int _), (0, .ref _), (1, .int _), (2, .int _), (3, .int _)] := hl
  refine lv_iload hx hb dM_donate_9 (lv_at hl 0 rfl) ?_
  refine lv_if_ge hx hb dM_donate_11 rfl (fun h_1 => ?_) (fun h_1 => ?_)
  · skip
    obtain ⟨hg1, hf1, hy0, hy1, hh1, hc1, hr0⟩ := mRef_nn (Int32.not_lt.mpr h_1)
    obtain ⟨j, hj, rfl⟩ := isP_ix hf1.1
    have hi : ix (nI j) = j := ix_nI (by omega)
    obtain ⟨ja, hja, rfl⟩ := gst_ix hk hg1.1 (by rw [← hmd]; exact hg1.2.1)
    have hia : ix (nI ja) = ja := ix_nI (by omega)
    refine lv_aload_n hx hb dM_donate_17 rfl (lv_at hl 1 rfl) ?_
    refine s_get hx hb hw inM hown hK hH 1 (by decide) (hw _ (gwd_5 (List.mem_of_getElem? (i := 41) rfl))) (by first | exact ⟨rfl, rfl⟩ | exact ⟨by assumption, rfl⟩ | exact ⟨by assumption, by assumption⟩ | exact ⟨by omega, rfl⟩ | exact ⟨by omega, by omega⟩ | exact ⟨by decide, rfl⟩) rfl rfl rfl rfl dM_donate_18 ?_
    refine lv_iload_n hx hb dM_donate_21 rfl (lv_at hl 3 rfl) ?_
    refine lv_iload_n hx hb dM_donate_22 rfl (lv_at hl 2 rfl) ?_
    refine m_iast hx hb hK hH hS (by first | exact ⟨rfl, rfl⟩ | exact ⟨by assumption, rfl⟩ | exact ⟨by assumption, by assumption⟩ | exact ⟨by omega, rfl⟩ | exact ⟨by omega, by omega⟩ | exact ⟨by decide, rfl⟩) rfl _ (by first | rfl | assumption) (show _ < 24 from by first | assumption | decide | omega) (by decide) rfl dM_donate_23 (fun H locs hH hS => ?_)
    refine lv_aload_n hx hb dM_donate_24 rfl (lv_at hl 1 rfl) ?_
    refine s_get hx hb hw inM hown hK hH 4 (by decide) (hw _ (gwd_5 (List.mem_of_getElem? (i := 44) rfl))) (by first | exact ⟨rfl, rfl⟩ | exact ⟨by assumption, rfl⟩ | exact ⟨by assumption, by assumption⟩ | exact ⟨by omega, rfl⟩ | exact ⟨by omega, by omega⟩ | exact ⟨by decide, rfl⟩) rfl rfl rfl rfl dM_donate_25 ?_
    refine lv_iload_n hx hb dM_donate_28 rfl (lv_at hl 3 rfl) ?_
    refine lv_iload_n hx hb dM_donate_29 rfl (lv_at hl 4 rfl) ?_
    refine m_iast hx hb hK hH hS (by first | exact ⟨rfl, rfl⟩ | exact ⟨by assumption, rfl⟩ | exact ⟨by assumption, by assumption⟩ | exact ⟨by omega, rfl⟩ | exact ⟨by omega, by omega⟩ | exact ⟨by decide, rfl⟩) rfl _ (by first | rfl | assumption) (show _ < 24 from by first | assumption | decide | omega) (by decide) rfl dM_donate_30 (fun H locs hH hS => ?_)
    refine lv_aload_n hx hb dM_donate_31 rfl (lv_at hl 1 rfl) ?_
    refine s_get hx hb hw inM hown hK hH 5 (by decide) (hw _ (gwd_5 (List.mem_of_getElem? (i := 45) rfl))) (by first | exact ⟨rfl, rfl⟩ | exact ⟨by assumption, rfl⟩ | exact ⟨by assumption, by assumption⟩ | exact ⟨by omega, rfl⟩ | exact ⟨by omega, by omega⟩ | exact ⟨by decide, rfl⟩) rfl rfl rfl rfl dM_donate_32 ?_
    refine lv_iload_n hx hb dM_donate_35 rfl (lv_at hl 3 rfl) ?_
    refine lv_iconst (v := 0) hx hb dM_donate_36 (by decide) ?_
    refine m_zast hx hb hK hH hS (by first | exact ⟨rfl, rfl⟩ | exact ⟨by assumption, rfl⟩ | exact ⟨by assumption, by assumption⟩ | exact ⟨by omega, rfl⟩ | exact ⟨by omega, by omega⟩ | exact ⟨by decide, rfl⟩) rfl _ (by first | rfl | assumption) (show _ < 24 from by first | assumption | decide | omega) (by decide) (by first | exact Or.inl rfl | exact Or.inr rfl | exact bz_01 _ | assumption) rfl dM_donate_37 (fun H locs hH hS => ?_)
    refine lv_aload_n hx hb dM_donate_38 rfl (lv_at hl 1 rfl) ?_
    refine s_get hx hb hw inM hown hK hH 9 (by decide) (hw _ (gwd_6 (List.mem_of_getElem? (i := 1) rfl))) (by first | exact ⟨rfl, rfl⟩ | exact ⟨by assumption, rfl⟩ | exact ⟨by assumption, by assumption⟩ | exact ⟨by omega, rfl⟩ | exact ⟨by omega, by omega⟩ | exact ⟨by decide, rfl⟩) rfl rfl rfl rfl dM_donate_39 ?_
    refine lv_iload_n hx hb dM_donate_42 rfl (lv_at hl 2 rfl) ?_
    refine m_zald hx hb hK hH (by first | exact ⟨rfl, rfl⟩ | exact ⟨by assumption, rfl⟩ | exact ⟨by assumption, by assumption⟩ | exact ⟨by omega, rfl⟩ | exact ⟨by omega, by omega⟩ | exact ⟨by decide, rfl⟩) rfl _ (by first | rfl | assumption) (show _ < 7 from by first | assumption | decide | omega) (by decide) dM_donate_43 ?_
    refine lv_if_eq hx hb dM_donate_44 rfl (fun h_2 => ?_) (fun h_2 => ?_)
    · skip
      refine lv_aload_n hx hb dM_donate_52 rfl (lv_at hl 1 rfl) ?_
      refine lv_iload_n hx hb dM_donate_53 rfl (lv_at hl 3 rfl) ?_
      refine s_cvE (va_runV (As := [.int _]) (rest := []) ⟨hx, hb, hml, hown, hw⟩ (c_M_look l  (by assumption)) (cwV 1 hw (gd_V (gwd_7 (List.mem_of_getElem? (i := 14) rfl)) (gwd_7 (List.mem_of_getElem? (i := 15) rfl)) (gwd_9 (List.mem_of_getElem? (i := 27) rfl)) (gwd_0 (List.mem_of_getElem? (i := 3) rfl)) (gwd_7 (List.mem_of_getElem? (i := 16) rfl))) rfl rfl rfl (by decide +kernel) ⟨Nat.le_of_ble_eq_true rfl, Nat.le_of_ble_eq_true rfl⟩) (gPre.V (n := (11, 0, 0)) hK hH (by first | exact ⟨rfl, rfl⟩ | exact ⟨by assumption, rfl⟩ | exact ⟨by assumption, by assumption⟩ | exact ⟨by omega, rfl⟩ | exact ⟨by omega, by omega⟩ | exact ⟨by decide, rfl⟩) rfl rfl) rfl rfl hl.1 rfl (lv_room (Nat.le_of_ble_eq_true rfl)) dM_donate_54 ⟨Nat.zero_le _, Nat.zero_le _⟩) hS (fun H locs hH hS => ?_)
      refine lv_iconst (v := 0) hx hb dM_donate_57 (by decide) ?_
      exact r_i hx hb hr hlk hK hH hS dM_donate_58 (by first | (rw [mDonate, if_pos (Int32.not_le.mp h_1)]; exact ⟨rfl, rfl⟩) | (rw [mDonate, if_neg (Int32.not_lt.mpr h_1), hi, hia]; refine ⟨rfl, ?_⟩; first | (rw [if_pos (show mDon1 J (nI ja) j y (mb 9) ja = 0 from h_2)]; rfl) | (rw [if_neg (show ¬ mDon1 J (nI ja) j y (mb 9) ja = 0 from h_2)]; rfl)))
    · skip
      refine lv_aload_n hx hb dM_donate_47 rfl (lv_at hl 1 rfl) ?_
      refine lv_iload_n hx hb dM_donate_48 rfl (lv_at hl 3 rfl) ?_
      refine s_cvE (va_runV (As := [.int _]) (rest := []) ⟨hx, hb, hml, hown, hw⟩ (c_M_wipe l  (by assumption)) (cwV 1 hw (gd_V (gwd_7 (List.mem_of_getElem? (i := 11) rfl)) (gwd_7 (List.mem_of_getElem? (i := 12) rfl)) (gwd_9 (List.mem_of_getElem? (i := 26) rfl)) (gwd_0 (List.mem_of_getElem? (i := 3) rfl)) (gwd_7 (List.mem_of_getElem? (i := 13) rfl))) rfl rfl rfl (by decide +kernel) ⟨Nat.le_of_ble_eq_true rfl, Nat.le_of_ble_eq_true rfl⟩) (gPre.V (n := (11, 0, 0)) hK hH (by first | exact ⟨rfl, rfl⟩ | exact ⟨by assumption, rfl⟩ | exact ⟨by assumption, by assumption⟩ | exact ⟨by omega, rfl⟩ | exact ⟨by omega, by omega⟩ | exact ⟨by decide, rfl⟩) rfl rfl) rfl rfl hl.1 rfl (lv_room (Nat.le_of_ble_eq_true rfl)) dM_donate_49 ⟨Nat.zero_le _, Nat.zero_le _⟩) hS (fun H locs hH hS => ?_)
      refine lv_aload_n hx hb dM_donate_52 rfl (lv_at hl 1 rfl) ?_
      refine lv_iload_n hx hb dM_donate_53 rfl (lv_at hl 3 rfl) ?_
      refine s_cvE (va_runV (As := [.int _]) (rest := []) ⟨hx, hb, hml, hown, hw⟩ (c_M_look l  (by assumption)) (cwV 1 hw (gd_V (gwd_7 (List.mem_of_getElem? (i := 14) rfl)) (gwd_7 (List.mem_of_getElem? (i := 15) rfl)) (gwd_9 (List.mem_of_getElem? (i := 27) rfl)) (gwd_0 (List.mem_of_getElem? (i := 3) rfl)) (gwd_7 (List.mem_of_getElem? (i := 16) rfl))) rfl rfl rfl (by decide +kernel) ⟨Nat.le_of_ble_eq_true rfl, Nat.le_of_ble_eq_true rfl⟩) (gPre.V (n := (11, 0, 0)) hK hH (by first | exact ⟨rfl, rfl⟩ | exact ⟨by assumption, rfl⟩ | exact ⟨by assumption, by assumption⟩ | exact ⟨by omega, rfl⟩ | exact ⟨by omega, by omega⟩ | exact ⟨by decide, rfl⟩) rfl rfl) rfl rfl hl.1 rfl (lv_room (Nat.le_of_ble_eq_true rfl)) dM_donate_54 ⟨Nat.zero_le _, Nat.zero_le _⟩) hS (fun H locs hH hS => ?_)
      refine lv_iconst (v := 0) hx hb dM_donate_57 (by decide) ?_
      exact r_i hx hb hr hlk hK hH hS dM_donate_58 (by first | (rw [mDonate, if_pos (Int32.not_le.mp h_1)]; exact ⟨rfl, rfl⟩) | (rw [mDonate, if_neg (Int32.not_lt.mpr h_1), hi, hia]; refine ⟨rfl, ?_⟩; first | (rw [if_pos (show mDon1 J (nI ja) j y (mb 9) ja = 0 from h_2)]; rfl) | (rw [if_neg (show ¬ mDon1 J (nI ja) j y (mb 9) ja = 0 from h_2)]; rfl)))
  · skip
    refine lv_iload hx hb dM_donate_14 (lv_at hl 0 rfl) ?_
    exact r_i hx hb hr hlk hK hH hS dM_donate_16 (by first | (rw [mDonate, if_pos (Int32.not_le.mp h_1)]; exact ⟨rfl, rfl⟩) | (rw [mDonate, if_neg (Int32.not_lt.mpr h_1), hi, hia]; refine ⟨rfl, ?_⟩; first | (rw [if_pos (show mDon1 J (nI ja) j y (mb 9) ja = 0 from rfl)]; rfl) | (rw [if_neg (show ¬ mDon1 J (nI ja) j y (mb 9) ja = 0 from rfl)]; rfl)))
set_option maxHeartbeats 4000000 in
set_option maxRecDepth 100000 in
theorem c_M_lend (l : Launch) {D : va_G} {c : Nat → ClassId} {sz : Nat} {ad : gN → Nat} {k : Nat} {I J : gI} {P : gP} {LG : Option Nat} {LP : Option (Nat × Nat)} {a x y : Int32} (hk : k ≤ 6) (hmd : J (11, 0, 0) 7 = nI k) : Met l yM_lend wM_lend { frames := 4, cells := 0, slots := 0, locals := 95 } (gPre D c sz [.ref (ad (11, 0, 0)), .int a, .int x, .int y] (ad, k, I, J, P, LG, LP)) (va_Qi (fun r u => r = (mLend J a x y).1 ∧ u = (ad, k, I, (mLend J a x y).2, P, LG, LP)) (gB D c sz) (gA sz)) 0 0 (gA sz) := by
  refine Met.ofW (cc := cM_lend) (maxL := 5) (ret := (some .int)) (by decide) rfl ?_
  intro p e s m args below meth cd s₁ B hml hv
  obtain ⟨rfl, hK, hH⟩ := hv
  have hx := B.exec
  have hb := B.bytes
  have hr := B.returns
  have hts := atoms_spec (ws := wM_lend) B.pre
  have hw : ∀ w ∈ gWd, w.before _ s = true := fun w h => hts w (List.mem_cons_of_mem _ h)
  have hown : s.vm.findClass RM = some m.cls := findClass_of_methodNamed B.named
  have hlk := B.notSynchronized
  have hS : va_S (gA sz) s.heap s.heap [] := va_S.rf
  have hH : gW D c sz ad k I J P LG LP s.heap := hH
  have hl := lv_entry ([.ref (ad (11, 0, 0)), .int a, .int x, .int y]) (n := 5) (Nat.le_of_ble_eq_true rfl)
  rw [lg_entry_eq]
  generalize (lg_sl ([.ref (ad (11, 0, 0)), .int a, .int x, .int y]) ++ List.replicate (5 - (lg_sl ([.ref (ad (11, 0, 0)), .int a, .int x, .int y])).length) Slot.unset).toArray = ls at hl ⊢
  have hl : lv_has ls 5 [(0, .ref (ad (11, 0, 0))), (1, .int a), (2, .int x), (3, .int y)] := hl
  refine lv_aload_n hx hb dM_lend_0 rfl (lv_at hl 0 rfl) ?_
  refine lv_iload_n hx hb dM_lend_1 rfl (lv_at hl 1 rfl) ?_
  refine lv_iload_n hx hb dM_lend_2 rfl (lv_at hl 2 rfl) ?_
  refine lv_iload_n hx hb dM_lend_3 rfl (lv_at hl 3 rfl) ?_
  refine s_ciE (va_runV (As := [.int _, .int _, .int _]) (rest := []) ⟨hx, hb, hml, hown, hw⟩ (c_M_refusal l  (by assumption) (by assumption)) (cwV 3 hw (gd_V (gwd_7 (List.mem_of_getElem? (i := 37) rfl)) (gwd_7 (List.mem_of_getElem? (i := 38) rfl)) (gwd_9 (List.mem_of_getElem? (i := 32) rfl)) (gwd_0 (List.mem_of_getElem? (i := 3) rfl)) (gwd_7 (List.mem_of_getElem? (i := 39) rfl))) rfl rfl rfl (by decide +kernel) ⟨Nat.le_of_ble_eq_true rfl, Nat.le_of_ble_eq_true rfl⟩) (gPre.V (n := (11, 0, 0)) hK hH (by first | exact ⟨rfl, rfl⟩ | exact ⟨by assumption, rfl⟩ | exact ⟨by assumption, by assumption⟩ | exact ⟨by omega, rfl⟩ | exact ⟨by omega, by omega⟩ | exact ⟨by decide, rfl⟩) rfl rfl) rfl rfl hl.1 rfl (lv_room (Nat.le_of_ble_eq_true rfl)) dM_lend_4 ⟨Nat.zero_le _, Nat.zero_le _⟩) hS (fun H locs hH hS => ?_)
  refine lv_istore hx hb dM_lend_7 hl (by decide) rfl (fun ls hl => ?_)
  have hl : lv_has ls 5 [(4, .int _), (0, .ref _), (1, .int _), (2, .int _), (3, .int _)] := hl
  refine lv_iload hx hb dM_lend_9 (lv_at hl 0 rfl) ?_
  refine lv_if_ne hx hb dM_lend_11 rfl (fun h_1 => ?_) (fun h_1 => ?_)
  · skip
    refine lv_iload hx hb dM_lend_28 (lv_at hl 0 rfl) ?_
    exact r_i hx hb hr hlk hK hH hS dM_lend_30 (by first | (refine ⟨rfl, ?_⟩; simp only [mLend]; rw [if_neg h_1]; done) | (refine ⟨rfl, ?_⟩; simp only [mLend]; rw [if_pos h_1, hi]; done))
  · skip
    obtain ⟨hg1, hf1, hy0, hy1, hh1, hc1, hr0⟩ := mRef_nn (by rw [h_1]; decide)
    obtain ⟨j, hj, rfl⟩ := isP_ix hf1.1
    have hi : ix (nI j) = j := ix_nI (by omega)
    obtain ⟨ja, hja, rfl⟩ := gst_ix hk hg1.1 (by rw [← hmd]; exact hg1.2.1)
    have hia : ix (nI ja) = ja := ix_nI (by omega)
    refine lv_aload_n hx hb dM_lend_14 rfl (lv_at hl 1 rfl) ?_
    refine s_get hx hb hw inM hown hK hH 3 (by decide) (hw _ (gwd_5 (List.mem_of_getElem? (i := 43) rfl))) (by first | exact ⟨rfl, rfl⟩ | exact ⟨by assumption, rfl⟩ | exact ⟨by assumption, by assumption⟩ | exact ⟨by omega, rfl⟩ | exact ⟨by omega, by omega⟩ | exact ⟨by decide, rfl⟩) rfl rfl rfl rfl dM_lend_15 ?_
    refine lv_iload_n hx hb dM_lend_18 rfl (lv_at hl 3 rfl) ?_
    refine lv_iload_n hx hb dM_lend_19 rfl (lv_at hl 2 rfl) ?_
    refine m_iast hx hb hK hH hS (by first | exact ⟨rfl, rfl⟩ | exact ⟨by assumption, rfl⟩ | exact ⟨by assumption, by assumption⟩ | exact ⟨by omega, rfl⟩ | exact ⟨by omega, by omega⟩ | exact ⟨by decide, rfl⟩) rfl _ (by first | rfl | assumption) (show _ < 24 from by first | assumption | decide | omega) (by decide) rfl dM_lend_20 (fun H locs hH hS => ?_)
    refine lv_aload_n hx hb dM_lend_21 rfl (lv_at hl 1 rfl) ?_
    refine s_get hx hb hw inM hown hK hH 4 (by decide) (hw _ (gwd_5 (List.mem_of_getElem? (i := 44) rfl))) (by first | exact ⟨rfl, rfl⟩ | exact ⟨by assumption, rfl⟩ | exact ⟨by assumption, by assumption⟩ | exact ⟨by omega, rfl⟩ | exact ⟨by omega, by omega⟩ | exact ⟨by decide, rfl⟩) rfl rfl rfl rfl dM_lend_22 ?_
    refine lv_iload_n hx hb dM_lend_25 rfl (lv_at hl 3 rfl) ?_
    refine lv_iload_n hx hb dM_lend_26 rfl (lv_at hl 4 rfl) ?_
    refine m_iast hx hb hK hH hS (by first | exact ⟨rfl, rfl⟩ | exact ⟨by assumption, rfl⟩ | exact ⟨by assumption, by assumption⟩ | exact ⟨by omega, rfl⟩ | exact ⟨by omega, by omega⟩ | exact ⟨by decide, rfl⟩) rfl _ (by first | rfl | assumption) (show _ < 24 from by first | assumption | decide | omega) (by decide) rfl dM_lend_27 (fun H locs hH hS => ?_)
    refine lv_iload hx hb dM_lend_28 (lv_at hl 0 rfl) ?_
    exact r_i hx hb hr hlk hK hH hS dM_lend_30 (by first | (refine ⟨rfl, ?_⟩; simp only [mLend]; rw [if_neg h_1]; done) | (refine ⟨rfl, ?_⟩; simp only [mLend]; rw [if_pos h_1, hi]; done))
set_option maxHeartbeats 4000000 in
set_option maxRecDepth 100000 in
theorem c_M_takeBack (l : Launch) {D : va_G} {c : Nat → ClassId} {sz : Nat} {ad : gN → Nat} {k : Nat} {I J : gI} {P : gP} {LG : Option Nat} {LP : Option (Nat × Nat)} {x : Int32}  : Met l yM_takeBack wM_takeBack { frames := 1, cells := 0, slots := 0, locals := 20 } (gPre D c sz [.ref (ad (11, 0, 0)), .int x] (ad, k, I, J, P, LG, LP)) (va_Qi (fun r u => r = (mTake J x).1 ∧ u = (ad, k, I, (mTake J x).2, P, LG, LP)) (gB D c sz) (gA sz)) 0 0 (gA sz) := by
  refine Met.ofW (cc := cM_takeBack) (maxL := 2) (ret := (some .boolean)) (by decide) rfl ?_
  intro p e s m args below meth cd s₁ B hml hv
  obtain ⟨rfl, hK, hH⟩ := hv
  have hx := B.exec
  have hb := B.bytes
  have hr := B.returns
  have hts := atoms_spec (ws := wM_takeBack) B.pre
  have hw : ∀ w ∈ gWd, w.before _ s = true := fun w h => hts w (List.mem_cons_of_mem _ h)
  have hown : s.vm.findClass RM = some m.cls := findClass_of_methodNamed B.named
  have hlk := B.notSynchronized
  have hS : va_S (gA sz) s.heap s.heap [] := va_S.rf
  have hH : gW D c sz ad k I J P LG LP s.heap := hH
  have hl := lv_entry ([.ref (ad (11, 0, 0)), .int x]) (n := 2) (Nat.le_of_ble_eq_true rfl)
  rw [lg_entry_eq]
  generalize (lg_sl ([.ref (ad (11, 0, 0)), .int x]) ++ List.replicate (2 - (lg_sl ([.ref (ad (11, 0, 0)), .int x])).length) Slot.unset).toArray = ls at hl ⊢
  have hl : lv_has ls 2 [(0, .ref (ad (11, 0, 0))), (1, .int x)] := hl
  refine lv_iload_n hx hb dM_takeBack_0 rfl (lv_at hl 1 rfl) ?_
  refine s_ciE (va_runS (As := [.int _]) (rest := []) ⟨hx, hb, hml, hown, hw⟩ (c_M_isPage l  ) (cwS 1 hw (gd_S (gwd_6 (List.mem_of_getElem? (i := 34) rfl)) (gwd_6 (List.mem_of_getElem? (i := 35) rfl)) (gwd_0 (List.mem_of_getElem? (i := 3) rfl)) (gwd_6 (List.mem_of_getElem? (i := 36) rfl))) rfl rfl rfl (by decide +kernel) ⟨Nat.le_of_ble_eq_true rfl, Nat.le_of_ble_eq_true rfl⟩) (gPre.S hK hH) rfl rfl hl.1 rfl (lv_room (Nat.le_of_ble_eq_true rfl)) dM_takeBack_1 ⟨Nat.zero_le _, Nat.zero_le _⟩) hS (fun H locs hH hS => ?_)
  refine s_ifeq hx hb dM_takeBack_4 rfl (fun h_1 => ?_) (fun h_1 => ?_)
  · skip
    refine lv_iconst (v := 0) hx hb dM_takeBack_16 (by decide) ?_
    exact r_z hx hb hr hlk hK hH hS dM_takeBack_17 (by first | exact Or.inl rfl | exact Or.inr rfl | exact bz_01 _ | assumption) (by first | (rw [mTake, if_neg (fun q => h_1 q.1)]; exact ⟨rfl, rfl⟩) | (rw [mTake, if_neg (fun q => q.2 (by rw [hi]; exact rfl))]; exact ⟨rfl, rfl⟩) | (rw [mTake, if_pos ⟨h_1, by rw [hi]; exact rfl⟩, hi]; exact ⟨rfl, rfl⟩))
  · skip
    obtain ⟨j, hj, rfl⟩ := isP_ix h_1
    have hi : ix (nI j) = j := ix_nI (by omega)
    refine lv_aload_n hx hb dM_takeBack_7 rfl (lv_at hl 0 rfl) ?_
    refine s_get hx hb hw inM hown hK hH 3 (by decide) (hw _ (gwd_5 (List.mem_of_getElem? (i := 43) rfl))) (by first | exact ⟨rfl, rfl⟩ | exact ⟨by assumption, rfl⟩ | exact ⟨by assumption, by assumption⟩ | exact ⟨by omega, rfl⟩ | exact ⟨by omega, by omega⟩ | exact ⟨by decide, rfl⟩) rfl rfl rfl rfl dM_takeBack_8 ?_
    refine lv_iload_n hx hb dM_takeBack_11 rfl (lv_at hl 1 rfl) ?_
    refine m_iald hx hb hK hH (by first | exact ⟨rfl, rfl⟩ | exact ⟨by assumption, rfl⟩ | exact ⟨by assumption, by assumption⟩ | exact ⟨by omega, rfl⟩ | exact ⟨by omega, by omega⟩ | exact ⟨by decide, rfl⟩) rfl _ (by first | rfl | assumption) (show _ < 24 from by first | assumption | decide | omega) (by decide) dM_takeBack_12 ?_
    refine lv_if_ne hx hb dM_takeBack_13 rfl (fun h_2 => ?_) (fun h_2 => ?_)
    · skip
      refine lv_aload_n hx hb dM_takeBack_18 rfl (lv_at hl 0 rfl) ?_
      refine s_get hx hb hw inM hown hK hH 3 (by decide) (hw _ (gwd_5 (List.mem_of_getElem? (i := 43) rfl))) (by first | exact ⟨rfl, rfl⟩ | exact ⟨by assumption, rfl⟩ | exact ⟨by assumption, by assumption⟩ | exact ⟨by omega, rfl⟩ | exact ⟨by omega, by omega⟩ | exact ⟨by decide, rfl⟩) rfl rfl rfl rfl dM_takeBack_19 ?_
      refine lv_iload_n hx hb dM_takeBack_22 rfl (lv_at hl 1 rfl) ?_
      refine lv_iconst (v := 0) hx hb dM_takeBack_23 (by decide) ?_
      refine m_iast hx hb hK hH hS (by first | exact ⟨rfl, rfl⟩ | exact ⟨by assumption, rfl⟩ | exact ⟨by assumption, by assumption⟩ | exact ⟨by omega, rfl⟩ | exact ⟨by omega, by omega⟩ | exact ⟨by decide, rfl⟩) rfl _ (by first | rfl | assumption) (show _ < 24 from by first | assumption | decide | omega) (by decide) rfl dM_takeBack_24 (fun H locs hH hS => ?_)
      refine lv_iconst (v := 1) hx hb dM_takeBack_25 (by decide) ?_
      exact r_z hx hb hr hlk hK hH hS dM_takeBack_26 (by first | exact Or.inl rfl | exact Or.inr rfl | exact bz_01 _ | assumption) (by first | (rw [mTake, if_neg (fun q => h_1 q.1)]; exact ⟨rfl, rfl⟩) | (rw [mTake, if_neg (fun q => q.2 (by rw [hi]; exact h_2))]; exact ⟨rfl, rfl⟩) | (rw [mTake, if_pos ⟨h_1, by rw [hi]; exact h_2⟩, hi]; exact ⟨rfl, rfl⟩))
    · skip
      refine lv_iconst (v := 0) hx hb dM_takeBack_16 (by decide) ?_
      exact r_z hx hb hr hlk hK hH hS dM_takeBack_17 (by first | exact Or.inl rfl | exact Or.inr rfl | exact bz_01 _ | assumption) (by first | (rw [mTake, if_neg (fun q => h_1 q.1)]; exact ⟨rfl, rfl⟩) | (rw [mTake, if_neg (fun q => q.2 (by rw [hi]; exact h_2))]; exact ⟨rfl, rfl⟩) | (rw [mTake, if_pos ⟨h_1, by rw [hi]; exact h_2⟩, hi]; exact ⟨rfl, rfl⟩))
set_option maxHeartbeats 4000000 in
set_option maxRecDepth 100000 in
theorem c_M_reclaim (l : Launch) {D : va_G} {c : Nat → ClassId} {sz : Nat} {ad : gN → Nat} {k : Nat} {I J : gI} {P : gP} {LG : Option Nat} {LP : Option (Nat × Nat)} {x : Int32}  : Met l yM_reclaim wM_reclaim { frames := 1, cells := 0, slots := 0, locals := 22 } (gPre D c sz [.ref (ad (11, 0, 0)), .int x] (ad, k, I, J, P, LG, LP)) (va_Qi (fun r u => r = (mReclaim J x).1 ∧ u = (ad, k, I, (mReclaim J x).2, P, LG, LP)) (gB D c sz) (gA sz)) 0 0 (gA sz) := by
  refine Met.ofW (cc := cM_reclaim) (maxL := 2) (ret := (some .boolean)) (by decide) rfl ?_
  intro p e s m args below meth cd s₁ B hml hv
  obtain ⟨rfl, hK, hH⟩ := hv
  have hx := B.exec
  have hb := B.bytes
  have hr := B.returns
  have hts := atoms_spec (ws := wM_reclaim) B.pre
  have hw : ∀ w ∈ gWd, w.before _ s = true := fun w h => hts w (List.mem_cons_of_mem _ h)
  have hown : s.vm.findClass RM = some m.cls := findClass_of_methodNamed B.named
  have hlk := B.notSynchronized
  have hS : va_S (gA sz) s.heap s.heap [] := va_S.rf
  have hH : gW D c sz ad k I J P LG LP s.heap := hH
  have hl := lv_entry ([.ref (ad (11, 0, 0)), .int x]) (n := 2) (Nat.le_of_ble_eq_true rfl)
  rw [lg_entry_eq]
  generalize (lg_sl ([.ref (ad (11, 0, 0)), .int x]) ++ List.replicate (2 - (lg_sl ([.ref (ad (11, 0, 0)), .int x])).length) Slot.unset).toArray = ls at hl ⊢
  have hl : lv_has ls 2 [(0, .ref (ad (11, 0, 0))), (1, .int x)] := hl
  refine lv_iload_n hx hb dM_reclaim_0 rfl (lv_at hl 1 rfl) ?_
  refine s_ciE (va_runS (As := [.int _]) (rest := []) ⟨hx, hb, hml, hown, hw⟩ (c_M_isPage l  ) (cwS 1 hw (gd_S (gwd_6 (List.mem_of_getElem? (i := 34) rfl)) (gwd_6 (List.mem_of_getElem? (i := 35) rfl)) (gwd_0 (List.mem_of_getElem? (i := 3) rfl)) (gwd_6 (List.mem_of_getElem? (i := 36) rfl))) rfl rfl rfl (by decide +kernel) ⟨Nat.le_of_ble_eq_true rfl, Nat.le_of_ble_eq_true rfl⟩) (gPre.S hK hH) rfl rfl hl.1 rfl (lv_room (Nat.le_of_ble_eq_true rfl)) dM_reclaim_1 ⟨Nat.zero_le _, Nat.zero_le _⟩) hS (fun H locs hH hS => ?_)
  refine s_ifeq hx hb dM_reclaim_4 rfl (fun h_1 => ?_) (fun h_1 => ?_)
  · skip
    refine lv_iconst (v := 0) hx hb dM_reclaim_18 (by decide) ?_
    exact r_z hx hb hr hlk hK hH hS dM_reclaim_19 (by first | exact Or.inl rfl | exact Or.inr rfl | exact bz_01 _ | assumption) (by first | (rw [mReclaim, if_neg (fun q => h_1 q.1)]; exact ⟨rfl, rfl⟩) | (rw [mReclaim, if_neg (fun q => rfl (by rw [← hi]; exact q.2))]; exact ⟨rfl, rfl⟩) | (rw [mReclaim, if_pos ⟨h_1, by rw [hi]; exact rfl⟩, hi]; exact ⟨rfl, rfl⟩))
  · skip
    obtain ⟨j, hj, rfl⟩ := isP_ix h_1
    have hi : ix (nI j) = j := ix_nI (by omega)
    refine lv_aload_n hx hb dM_reclaim_7 rfl (lv_at hl 0 rfl) ?_
    refine s_get hx hb hw inM hown hK hH 1 (by decide) (hw _ (gwd_5 (List.mem_of_getElem? (i := 41) rfl))) (by first | exact ⟨rfl, rfl⟩ | exact ⟨by assumption, rfl⟩ | exact ⟨by assumption, by assumption⟩ | exact ⟨by omega, rfl⟩ | exact ⟨by omega, by omega⟩ | exact ⟨by decide, rfl⟩) rfl rfl rfl rfl dM_reclaim_8 ?_
    refine lv_iload_n hx hb dM_reclaim_11 rfl (lv_at hl 1 rfl) ?_
    refine m_iald hx hb hK hH (by first | exact ⟨rfl, rfl⟩ | exact ⟨by assumption, rfl⟩ | exact ⟨by assumption, by assumption⟩ | exact ⟨by omega, rfl⟩ | exact ⟨by omega, by omega⟩ | exact ⟨by decide, rfl⟩) rfl _ (by first | rfl | assumption) (show _ < 24 from by first | assumption | decide | omega) (by decide) dM_reclaim_12 ?_
    refine lv_bipush (v := 8) hx hb dM_reclaim_13 (by decide) ?_
    refine lv_icmp_eq hx hb dM_reclaim_15 rfl (fun h_2 => ?_) (fun h_2 => ?_)
    · skip
      refine lv_aload_n hx hb dM_reclaim_20 rfl (lv_at hl 0 rfl) ?_
      refine s_get hx hb hw inM hown hK hH 1 (by decide) (hw _ (gwd_5 (List.mem_of_getElem? (i := 41) rfl))) (by first | exact ⟨rfl, rfl⟩ | exact ⟨by assumption, rfl⟩ | exact ⟨by assumption, by assumption⟩ | exact ⟨by omega, rfl⟩ | exact ⟨by omega, by omega⟩ | exact ⟨by decide, rfl⟩) rfl rfl rfl rfl dM_reclaim_21 ?_
      refine lv_iload_n hx hb dM_reclaim_24 rfl (lv_at hl 1 rfl) ?_
      refine lv_iconst (v := 0) hx hb dM_reclaim_25 (by decide) ?_
      refine m_iast hx hb hK hH hS (by first | exact ⟨rfl, rfl⟩ | exact ⟨by assumption, rfl⟩ | exact ⟨by assumption, by assumption⟩ | exact ⟨by omega, rfl⟩ | exact ⟨by omega, by omega⟩ | exact ⟨by decide, rfl⟩) rfl _ (by first | rfl | assumption) (show _ < 24 from by first | assumption | decide | omega) (by decide) rfl dM_reclaim_26 (fun H locs hH hS => ?_)
      refine lv_aload_n hx hb dM_reclaim_27 rfl (lv_at hl 0 rfl) ?_
      refine lv_iload_n hx hb dM_reclaim_28 rfl (lv_at hl 1 rfl) ?_
      refine s_cvE (va_runV (As := [.int _]) (rest := []) ⟨hx, hb, hml, hown, hw⟩ (c_M_wipe l  (by assumption)) (cwV 1 hw (gd_V (gwd_7 (List.mem_of_getElem? (i := 11) rfl)) (gwd_7 (List.mem_of_getElem? (i := 12) rfl)) (gwd_9 (List.mem_of_getElem? (i := 26) rfl)) (gwd_0 (List.mem_of_getElem? (i := 3) rfl)) (gwd_7 (List.mem_of_getElem? (i := 13) rfl))) rfl rfl rfl (by decide +kernel) ⟨Nat.le_of_ble_eq_true rfl, Nat.le_of_ble_eq_true rfl⟩) (gPre.V (n := (11, 0, 0)) hK hH (by first | exact ⟨rfl, rfl⟩ | exact ⟨by assumption, rfl⟩ | exact ⟨by assumption, by assumption⟩ | exact ⟨by omega, rfl⟩ | exact ⟨by omega, by omega⟩ | exact ⟨by decide, rfl⟩) rfl rfl) rfl rfl hl.1 rfl (lv_room (Nat.le_of_ble_eq_true rfl)) dM_reclaim_29 ⟨Nat.zero_le _, Nat.zero_le _⟩) hS (fun H locs hH hS => ?_)
      refine lv_iconst (v := 1) hx hb dM_reclaim_32 (by decide) ?_
      exact r_z hx hb hr hlk hK hH hS dM_reclaim_33 (by first | exact Or.inl rfl | exact Or.inr rfl | exact bz_01 _ | assumption) (by first | (rw [mReclaim, if_neg (fun q => h_1 q.1)]; exact ⟨rfl, rfl⟩) | (rw [mReclaim, if_neg (fun q => h_2 (by rw [← hi]; exact q.2))]; exact ⟨rfl, rfl⟩) | (rw [mReclaim, if_pos ⟨h_1, by rw [hi]; exact h_2⟩, hi]; exact ⟨rfl, rfl⟩))
    · skip
      refine lv_iconst (v := 0) hx hb dM_reclaim_18 (by decide) ?_
      exact r_z hx hb hr hlk hK hH hS dM_reclaim_19 (by first | exact Or.inl rfl | exact Or.inr rfl | exact bz_01 _ | assumption) (by first | (rw [mReclaim, if_neg (fun q => h_1 q.1)]; exact ⟨rfl, rfl⟩) | (rw [mReclaim, if_neg (fun q => h_2 (by rw [← hi]; exact q.2))]; exact ⟨rfl, rfl⟩) | (rw [mReclaim, if_pos ⟨h_1, by rw [hi]; exact h_2⟩, hi]; exact ⟨rfl, rfl⟩))
set_option maxHeartbeats 4000000 in
set_option maxRecDepth 100000 in
theorem c_M_destroy (l : Launch) {D : va_G} {c : Nat → ClassId} {sz : Nat} {ad : gN → Nat} {k : Nat} {I J : gI} {P : gP} {LG : Option Nat} {LP : Option (Nat × Nat)} {a : Int32} (hk : k ≤ 6) (hmd : J (11, 0, 0) 7 = nI k) : Met l yM_destroy wM_destroy { frames := 2, cells := 0, slots := 0, locals := 42 } (gPre D c sz [.ref (ad (11, 0, 0)), .int a] (ad, k, I, J, P, LG, LP)) (va_Qi (fun r u => r = (mDestroy J a).1 ∧ u = (ad, k, I, (mDestroy J a).2, P, LG, LP)) (gB D c sz) (gA sz)) 0 0 (gA sz) := by
  refine Met.ofW (cc := cM_destroy) (maxL := 3) (ret := (some .boolean)) (by decide) rfl ?_
  intro p e s m args below meth cd s₁ B hml hv
  obtain ⟨rfl, hK, hH⟩ := hv
  have hx := B.exec
  have hb := B.bytes
  have hr := B.returns
  have hts := atoms_spec (ws := wM_destroy) B.pre
  have hw : ∀ w ∈ gWd, w.before _ s = true := fun w h => hts w (List.mem_cons_of_mem _ h)
  have hown : s.vm.findClass RM = some m.cls := findClass_of_methodNamed B.named
  have hlk := B.notSynchronized
  have hS : va_S (gA sz) s.heap s.heap [] := va_S.rf
  have hH : gW D c sz ad k I J P LG LP s.heap := hH
  have hl := lv_entry ([.ref (ad (11, 0, 0)), .int a]) (n := 3) (Nat.le_of_ble_eq_true rfl)
  rw [lg_entry_eq]
  generalize (lg_sl ([.ref (ad (11, 0, 0)), .int a]) ++ List.replicate (3 - (lg_sl ([.ref (ad (11, 0, 0)), .int a])).length) Slot.unset).toArray = ls at hl ⊢
  have hl : lv_has ls 3 [(0, .ref (ad (11, 0, 0))), (1, .int a)] := hl
  have key : ∀ (J' : gI), (mDestroy J a).1 = 1 → (mDestroy J a).2 = mLoseN J' a 24 → ∀ (n i : Nat), i + n = 24 → ∀ ls : Array Slot, lv_has ls 3 [(2, .int (nI i)), (0, .ref (ad (11, 0, 0))), (1, .int a)] → ∀ (H : Heap) (locs : List Loc), gW D c sz ad k I (mLoseN J' a i) P LG LP H → va_S (gA sz) s.heap H locs → W p l e (headSpec wM_destroy { frames := 2, cells := 0, slots := 0, locals := 42 }).room s m ([.ref (ad (11, 0, 0)), .int a] : List Value).toArray below meth cd H locs 0 0 (MQ below (va_Qi (fun r u => r = (mDestroy J a).1 ∧ u = (ad, k, I, (mDestroy J a).2, P, LG, LP)) (gB D c sz) (gA sz)) ([.ref (ad (11, 0, 0)), .int a] : List Value).toArray s 0 0 (gA sz)) (F0 m 36 ls []) := by
    intro J' hI1 hI2 n
    induction n with
    | zero =>
      intro i hi ls hl H locs hH hS
      refine lv_iload_n hx hb dM_destroy_36 rfl (lv_at hl 0 rfl) ?_
      refine lv_bipush (v := 24) hx hb dM_destroy_37 (by decide) ?_
      refine lv_icmp_ge hx hb dM_destroy_39 rfl (fun h_1 => ?_) (fun h_1 => ?_)
      · skip
        refine lv_iconst (v := 1) hx hb dM_destroy_125 (by decide) ?_
        exact r_z hx hb hr hlk hK hH hS dM_destroy_126 (by first | exact Or.inl rfl | exact Or.inr rfl | exact bz_01 _ | assumption) (⟨hI1.symm, by rw [hI2, show i = 24 by omega]⟩)
      · exact absurd (show (24 : Int32) ≤ nI i from nI_le (a := 24) (by omega) (by omega)) h_1
    | succ n ih =>
      intro i hi ls hl H locs hH hS
      generalize hJ2 : mLoseN J' a i = J2 at hH
      refine lv_iload_n hx hb dM_destroy_36 rfl (lv_at hl 0 rfl) ?_
      refine lv_bipush (v := 24) hx hb dM_destroy_37 (by decide) ?_
      refine lv_icmp_ge hx hb dM_destroy_39 rfl (fun h_2 => ?_) (fun h_2 => ?_)
      · exact absurd h_2 (nI_ge (b := 24) (show i < 24 by omega) (by decide))
      · skip
        refine lv_aload_n hx hb dM_destroy_42 rfl (lv_at hl 1 rfl) ?_
        refine s_get hx hb hw inM hown hK hH 1 (by decide) (hw _ (gwd_5 (List.mem_of_getElem? (i := 41) rfl))) (by first | exact ⟨rfl, rfl⟩ | exact ⟨by assumption, rfl⟩ | exact ⟨by assumption, by assumption⟩ | exact ⟨by omega, rfl⟩ | exact ⟨by omega, by omega⟩ | exact ⟨by decide, rfl⟩) rfl rfl rfl rfl dM_destroy_43 ?_
        refine lv_iload_n hx hb dM_destroy_46 rfl (lv_at hl 0 rfl) ?_
        refine m_iald hx hb hK hH (by first | exact ⟨rfl, rfl⟩ | exact ⟨by assumption, rfl⟩ | exact ⟨by assumption, by assumption⟩ | exact ⟨by omega, rfl⟩ | exact ⟨by omega, by omega⟩ | exact ⟨by decide, rfl⟩) rfl _ (by first | rfl | assumption) (show _ < 24 from by omega) (by decide) dM_destroy_47 ?_
        refine lv_iload_n hx hb dM_destroy_48 rfl (lv_at hl 2 rfl) ?_
        refine lv_icmp_eq hx hb dM_destroy_49 rfl (fun h_3 => ?_) (fun h_3 => ?_)
        · skip
          refine lv_aload_n hx hb dM_destroy_73 rfl (lv_at hl 1 rfl) ?_
          refine s_get hx hb hw inM hown hK hH 1 (by decide) (hw _ (gwd_5 (List.mem_of_getElem? (i := 41) rfl))) (by first | exact ⟨rfl, rfl⟩ | exact ⟨by assumption, rfl⟩ | exact ⟨by assumption, by assumption⟩ | exact ⟨by omega, rfl⟩ | exact ⟨by omega, by omega⟩ | exact ⟨by decide, rfl⟩) rfl rfl rfl rfl dM_destroy_74 ?_
          refine lv_iload_n hx hb dM_destroy_77 rfl (lv_at hl 0 rfl) ?_
          refine lv_bipush (v := 8) hx hb dM_destroy_78 (by decide) ?_
          refine m_iast hx hb hK hH hS (by first | exact ⟨rfl, rfl⟩ | exact ⟨by assumption, rfl⟩ | exact ⟨by assumption, by assumption⟩ | exact ⟨by omega, rfl⟩ | exact ⟨by omega, by omega⟩ | exact ⟨by decide, rfl⟩) rfl _ (by first | rfl | assumption) (show _ < 24 from by omega) (by decide) rfl dM_destroy_80 (fun H locs hH hS => ?_)
          refine lv_aload_n hx hb dM_destroy_81 rfl (lv_at hl 1 rfl) ?_
          refine s_get hx hb hw inM hown hK hH 5 (by decide) (hw _ (gwd_5 (List.mem_of_getElem? (i := 45) rfl))) (by first | exact ⟨rfl, rfl⟩ | exact ⟨by assumption, rfl⟩ | exact ⟨by assumption, by assumption⟩ | exact ⟨by omega, rfl⟩ | exact ⟨by omega, by omega⟩ | exact ⟨by decide, rfl⟩) rfl rfl rfl rfl dM_destroy_82 ?_
          refine lv_iload_n hx hb dM_destroy_85 rfl (lv_at hl 0 rfl) ?_
          refine lv_iconst (v := 0) hx hb dM_destroy_86 (by decide) ?_
          refine m_zast hx hb hK hH hS (by first | exact ⟨rfl, rfl⟩ | exact ⟨by assumption, rfl⟩ | exact ⟨by assumption, by assumption⟩ | exact ⟨by omega, rfl⟩ | exact ⟨by omega, by omega⟩ | exact ⟨by decide, rfl⟩) rfl _ (by first | rfl | assumption) (show _ < 24 from by omega) (by decide) (by first | exact Or.inl rfl | exact Or.inr rfl | exact bz_01 _ | assumption) rfl dM_destroy_87 (fun H locs hH hS => ?_)
          refine lv_aload_n hx hb dM_destroy_88 rfl (lv_at hl 1 rfl) ?_
          refine lv_iload_n hx hb dM_destroy_89 rfl (lv_at hl 0 rfl) ?_
          refine s_cvE (va_runV (As := [.int _]) (rest := []) ⟨hx, hb, hml, hown, hw⟩ (c_M_look l  (by omega)) (cwV 1 hw (gd_V (gwd_7 (List.mem_of_getElem? (i := 14) rfl)) (gwd_7 (List.mem_of_getElem? (i := 15) rfl)) (gwd_9 (List.mem_of_getElem? (i := 27) rfl)) (gwd_0 (List.mem_of_getElem? (i := 3) rfl)) (gwd_7 (List.mem_of_getElem? (i := 16) rfl))) rfl rfl rfl (by decide +kernel) ⟨Nat.le_of_ble_eq_true rfl, Nat.le_of_ble_eq_true rfl⟩) (gPre.V (n := (11, 0, 0)) hK hH (by first | exact ⟨rfl, rfl⟩ | exact ⟨by assumption, rfl⟩ | exact ⟨by assumption, by assumption⟩ | exact ⟨by omega, rfl⟩ | exact ⟨by omega, by omega⟩ | exact ⟨by decide, rfl⟩) rfl rfl) rfl rfl hl.1 rfl (lv_room (Nat.le_of_ble_eq_true rfl)) dM_destroy_90 ⟨Nat.zero_le _, Nat.zero_le _⟩) hS (fun H locs hH hS => ?_)
          refine lv_aload_n hx hb dM_destroy_93 rfl (lv_at hl 1 rfl) ?_
          refine s_get hx hb hw inM hown hK hH 3 (by decide) (hw _ (gwd_5 (List.mem_of_getElem? (i := 43) rfl))) (by first | exact ⟨rfl, rfl⟩ | exact ⟨by assumption, rfl⟩ | exact ⟨by assumption, by assumption⟩ | exact ⟨by omega, rfl⟩ | exact ⟨by omega, by omega⟩ | exact ⟨by decide, rfl⟩) rfl rfl rfl rfl dM_destroy_94 ?_
          refine lv_iload_n hx hb dM_destroy_97 rfl (lv_at hl 0 rfl) ?_
          refine lv_aload_n hx hb dM_destroy_98 rfl (lv_at hl 1 rfl) ?_
          refine s_get hx hb hw inM hown hK hH 3 (by decide) (hw _ (gwd_5 (List.mem_of_getElem? (i := 43) rfl))) (by first | exact ⟨rfl, rfl⟩ | exact ⟨by assumption, rfl⟩ | exact ⟨by assumption, by assumption⟩ | exact ⟨by omega, rfl⟩ | exact ⟨by omega, by omega⟩ | exact ⟨by decide, rfl⟩) rfl rfl rfl rfl dM_destroy_99 ?_
          refine lv_iload_n hx hb dM_destroy_102 rfl (lv_at hl 0 rfl) ?_
          refine m_iald hx hb hK hH (by first | exact ⟨rfl, rfl⟩ | exact ⟨by assumption, rfl⟩ | exact ⟨by assumption, by assumption⟩ | exact ⟨by omega, rfl⟩ | exact ⟨by omega, by omega⟩ | exact ⟨by decide, rfl⟩) rfl _ (by first | rfl | assumption) (show _ < 24 from by omega) (by decide) dM_destroy_103 ?_
          refine lv_iload_n hx hb dM_destroy_104 rfl (lv_at hl 2 rfl) ?_
          refine lv_icmp_ne hx hb dM_destroy_105 rfl (fun h_4 => ?_) (fun h_4 => ?_)
          · skip
            refine lv_aload_n hx hb dM_destroy_112 rfl (lv_at hl 1 rfl) ?_
            refine s_get hx hb hw inM hown hK hH 3 (by decide) (hw _ (gwd_5 (List.mem_of_getElem? (i := 43) rfl))) (by first | exact ⟨rfl, rfl⟩ | exact ⟨by assumption, rfl⟩ | exact ⟨by assumption, by assumption⟩ | exact ⟨by omega, rfl⟩ | exact ⟨by omega, by omega⟩ | exact ⟨by decide, rfl⟩) rfl rfl rfl rfl dM_destroy_113 ?_
            refine lv_iload_n hx hb dM_destroy_116 rfl (lv_at hl 0 rfl) ?_
            refine m_iald hx hb hK hH (by first | exact ⟨rfl, rfl⟩ | exact ⟨by assumption, rfl⟩ | exact ⟨by assumption, by assumption⟩ | exact ⟨by omega, rfl⟩ | exact ⟨by omega, by omega⟩ | exact ⟨by decide, rfl⟩) rfl _ (by first | rfl | assumption) (show _ < 24 from by omega) (by decide) dM_destroy_117 ?_
            refine m_iast hx hb hK hH hS (by first | exact ⟨rfl, rfl⟩ | exact ⟨by assumption, rfl⟩ | exact ⟨by assumption, by assumption⟩ | exact ⟨by omega, rfl⟩ | exact ⟨by omega, by omega⟩ | exact ⟨by decide, rfl⟩) rfl _ (by first | rfl | assumption) (show _ < 24 from by omega) (by decide) rfl dM_destroy_118 (fun H locs hH hS => ?_)
            refine lv_iinc (k := 0) (v := nI (i + 1)) hx hb dM_destroy_119 hl rfl (by rw [nI_succ]; rfl) (by decide) rfl (fun ls hl => ?_)
            have hl : lv_has ls 3 [(2, .int _), (0, .ref _), (1, .int _)] := hl
            refine lv_goto hx hb dM_destroy_122 rfl ?_
            exact ih (i + 1) (by omega) ls (lv_sub hl [0, 1, 2] rfl) H locs (by rw [show mLoseN J' a (i + 1) = mLose (mLoseN J' a i) a i from rfl, hJ2, mLose]; rw [mLose1]; first | (rw [if_pos (Or.inl h_3), if_pos h_4]; exact hH) | (rw [if_pos (Or.inl h_3), if_neg h_4]; exact hH)) hS
          · skip
            refine lv_iconst (v := 0) hx hb dM_destroy_108 (by decide) ?_
            refine lv_goto hx hb dM_destroy_109 rfl ?_
            refine m_iast hx hb hK hH hS (by first | exact ⟨rfl, rfl⟩ | exact ⟨by assumption, rfl⟩ | exact ⟨by assumption, by assumption⟩ | exact ⟨by omega, rfl⟩ | exact ⟨by omega, by omega⟩ | exact ⟨by decide, rfl⟩) rfl _ (by first | rfl | assumption) (show _ < 24 from by omega) (by decide) rfl dM_destroy_118 (fun H locs hH hS => ?_)
            refine lv_iinc (k := 0) (v := nI (i + 1)) hx hb dM_destroy_119 hl rfl (by rw [nI_succ]; rfl) (by decide) rfl (fun ls hl => ?_)
            have hl : lv_has ls 3 [(2, .int _), (0, .ref _), (1, .int _)] := hl
            refine lv_goto hx hb dM_destroy_122 rfl ?_
            exact ih (i + 1) (by omega) ls (lv_sub hl [0, 1, 2] rfl) H locs (by rw [show mLoseN J' a (i + 1) = mLose (mLoseN J' a i) a i from rfl, hJ2, mLose]; rw [mLose1]; first | (rw [if_pos (Or.inl h_3), if_pos h_4]; exact hH) | (rw [if_pos (Or.inl h_3), if_neg h_4]; exact hH)) hS
        · skip
          refine lv_aload_n hx hb dM_destroy_52 rfl (lv_at hl 1 rfl) ?_
          refine s_get hx hb hw inM hown hK hH 1 (by decide) (hw _ (gwd_5 (List.mem_of_getElem? (i := 41) rfl))) (by first | exact ⟨rfl, rfl⟩ | exact ⟨by assumption, rfl⟩ | exact ⟨by assumption, by assumption⟩ | exact ⟨by omega, rfl⟩ | exact ⟨by omega, by omega⟩ | exact ⟨by decide, rfl⟩) rfl rfl rfl rfl dM_destroy_53 ?_
          refine lv_iload_n hx hb dM_destroy_56 rfl (lv_at hl 0 rfl) ?_
          refine m_iald hx hb hK hH (by first | exact ⟨rfl, rfl⟩ | exact ⟨by assumption, rfl⟩ | exact ⟨by assumption, by assumption⟩ | exact ⟨by omega, rfl⟩ | exact ⟨by omega, by omega⟩ | exact ⟨by decide, rfl⟩) rfl _ (by first | rfl | assumption) (show _ < 24 from by omega) (by decide) dM_destroy_57 ?_
          refine lv_bipush (v := 7) hx hb dM_destroy_58 (by decide) ?_
          refine lv_icmp_ne hx hb dM_destroy_60 rfl (fun h_5 => ?_) (fun h_5 => ?_)
          · skip
            refine lv_aload_n hx hb dM_destroy_93 rfl (lv_at hl 1 rfl) ?_
            refine s_get hx hb hw inM hown hK hH 3 (by decide) (hw _ (gwd_5 (List.mem_of_getElem? (i := 43) rfl))) (by first | exact ⟨rfl, rfl⟩ | exact ⟨by assumption, rfl⟩ | exact ⟨by assumption, by assumption⟩ | exact ⟨by omega, rfl⟩ | exact ⟨by omega, by omega⟩ | exact ⟨by decide, rfl⟩) rfl rfl rfl rfl dM_destroy_94 ?_
            refine lv_iload_n hx hb dM_destroy_97 rfl (lv_at hl 0 rfl) ?_
            refine lv_aload_n hx hb dM_destroy_98 rfl (lv_at hl 1 rfl) ?_
            refine s_get hx hb hw inM hown hK hH 3 (by decide) (hw _ (gwd_5 (List.mem_of_getElem? (i := 43) rfl))) (by first | exact ⟨rfl, rfl⟩ | exact ⟨by assumption, rfl⟩ | exact ⟨by assumption, by assumption⟩ | exact ⟨by omega, rfl⟩ | exact ⟨by omega, by omega⟩ | exact ⟨by decide, rfl⟩) rfl rfl rfl rfl dM_destroy_99 ?_
            refine lv_iload_n hx hb dM_destroy_102 rfl (lv_at hl 0 rfl) ?_
            refine m_iald hx hb hK hH (by first | exact ⟨rfl, rfl⟩ | exact ⟨by assumption, rfl⟩ | exact ⟨by assumption, by assumption⟩ | exact ⟨by omega, rfl⟩ | exact ⟨by omega, by omega⟩ | exact ⟨by decide, rfl⟩) rfl _ (by first | rfl | assumption) (show _ < 24 from by omega) (by decide) dM_destroy_103 ?_
            refine lv_iload_n hx hb dM_destroy_104 rfl (lv_at hl 2 rfl) ?_
            refine lv_icmp_ne hx hb dM_destroy_105 rfl (fun h_6 => ?_) (fun h_6 => ?_)
            · skip
              refine lv_aload_n hx hb dM_destroy_112 rfl (lv_at hl 1 rfl) ?_
              refine s_get hx hb hw inM hown hK hH 3 (by decide) (hw _ (gwd_5 (List.mem_of_getElem? (i := 43) rfl))) (by first | exact ⟨rfl, rfl⟩ | exact ⟨by assumption, rfl⟩ | exact ⟨by assumption, by assumption⟩ | exact ⟨by omega, rfl⟩ | exact ⟨by omega, by omega⟩ | exact ⟨by decide, rfl⟩) rfl rfl rfl rfl dM_destroy_113 ?_
              refine lv_iload_n hx hb dM_destroy_116 rfl (lv_at hl 0 rfl) ?_
              refine m_iald hx hb hK hH (by first | exact ⟨rfl, rfl⟩ | exact ⟨by assumption, rfl⟩ | exact ⟨by assumption, by assumption⟩ | exact ⟨by omega, rfl⟩ | exact ⟨by omega, by omega⟩ | exact ⟨by decide, rfl⟩) rfl _ (by first | rfl | assumption) (show _ < 24 from by omega) (by decide) dM_destroy_117 ?_
              refine m_iast hx hb hK hH hS (by first | exact ⟨rfl, rfl⟩ | exact ⟨by assumption, rfl⟩ | exact ⟨by assumption, by assumption⟩ | exact ⟨by omega, rfl⟩ | exact ⟨by omega, by omega⟩ | exact ⟨by decide, rfl⟩) rfl _ (by first | rfl | assumption) (show _ < 24 from by omega) (by decide) rfl dM_destroy_118 (fun H locs hH hS => ?_)
              refine lv_iinc (k := 0) (v := nI (i + 1)) hx hb dM_destroy_119 hl rfl (by rw [nI_succ]; rfl) (by decide) rfl (fun ls hl => ?_)
              have hl : lv_has ls 3 [(2, .int _), (0, .ref _), (1, .int _)] := hl
              refine lv_goto hx hb dM_destroy_122 rfl ?_
              exact ih (i + 1) (by omega) ls (lv_sub hl [0, 1, 2] rfl) H locs (by rw [show mLoseN J' a (i + 1) = mLose (mLoseN J' a i) a i from rfl, hJ2, mLose]; rw [mLose1]; first | (rw [if_neg (fun q => q.elim h_3 (fun q => h_5 q.1)), if_pos h_6]; exact hH) | (rw [if_neg (fun q => q.elim h_3 (fun q => h_5 q.1)), if_neg h_6]; exact hH)) hS
            · skip
              refine lv_iconst (v := 0) hx hb dM_destroy_108 (by decide) ?_
              refine lv_goto hx hb dM_destroy_109 rfl ?_
              refine m_iast hx hb hK hH hS (by first | exact ⟨rfl, rfl⟩ | exact ⟨by assumption, rfl⟩ | exact ⟨by assumption, by assumption⟩ | exact ⟨by omega, rfl⟩ | exact ⟨by omega, by omega⟩ | exact ⟨by decide, rfl⟩) rfl _ (by first | rfl | assumption) (show _ < 24 from by omega) (by decide) rfl dM_destroy_118 (fun H locs hH hS => ?_)
              refine lv_iinc (k := 0) (v := nI (i + 1)) hx hb dM_destroy_119 hl rfl (by rw [nI_succ]; rfl) (by decide) rfl (fun ls hl => ?_)
              have hl : lv_has ls 3 [(2, .int _), (0, .ref _), (1, .int _)] := hl
              refine lv_goto hx hb dM_destroy_122 rfl ?_
              exact ih (i + 1) (by omega) ls (lv_sub hl [0, 1, 2] rfl) H locs (by rw [show mLoseN J' a (i + 1) = mLose (mLoseN J' a i) a i from rfl, hJ2, mLose]; rw [mLose1]; first | (rw [if_neg (fun q => q.elim h_3 (fun q => h_5 q.1)), if_pos h_6]; exact hH) | (rw [if_neg (fun q => q.elim h_3 (fun q => h_5 q.1)), if_neg h_6]; exact hH)) hS
          · skip
            refine lv_aload_n hx hb dM_destroy_63 rfl (lv_at hl 1 rfl) ?_
            refine s_get hx hb hw inM hown hK hH 2 (by decide) (hw _ (gwd_5 (List.mem_of_getElem? (i := 42) rfl))) (by first | exact ⟨rfl, rfl⟩ | exact ⟨by assumption, rfl⟩ | exact ⟨by assumption, by assumption⟩ | exact ⟨by omega, rfl⟩ | exact ⟨by omega, by omega⟩ | exact ⟨by decide, rfl⟩) rfl rfl rfl rfl dM_destroy_64 ?_
            refine lv_iload_n hx hb dM_destroy_67 rfl (lv_at hl 0 rfl) ?_
            refine m_iald hx hb hK hH (by first | exact ⟨rfl, rfl⟩ | exact ⟨by assumption, rfl⟩ | exact ⟨by assumption, by assumption⟩ | exact ⟨by omega, rfl⟩ | exact ⟨by omega, by omega⟩ | exact ⟨by decide, rfl⟩) rfl _ (by first | rfl | assumption) (show _ < 24 from by omega) (by decide) dM_destroy_68 ?_
            refine lv_iload_n hx hb dM_destroy_69 rfl (lv_at hl 2 rfl) ?_
            refine lv_icmp_ne hx hb dM_destroy_70 rfl (fun h_7 => ?_) (fun h_7 => ?_)
            · skip
              refine lv_aload_n hx hb dM_destroy_93 rfl (lv_at hl 1 rfl) ?_
              refine s_get hx hb hw inM hown hK hH 3 (by decide) (hw _ (gwd_5 (List.mem_of_getElem? (i := 43) rfl))) (by first | exact ⟨rfl, rfl⟩ | exact ⟨by assumption, rfl⟩ | exact ⟨by assumption, by assumption⟩ | exact ⟨by omega, rfl⟩ | exact ⟨by omega, by omega⟩ | exact ⟨by decide, rfl⟩) rfl rfl rfl rfl dM_destroy_94 ?_
              refine lv_iload_n hx hb dM_destroy_97 rfl (lv_at hl 0 rfl) ?_
              refine lv_aload_n hx hb dM_destroy_98 rfl (lv_at hl 1 rfl) ?_
              refine s_get hx hb hw inM hown hK hH 3 (by decide) (hw _ (gwd_5 (List.mem_of_getElem? (i := 43) rfl))) (by first | exact ⟨rfl, rfl⟩ | exact ⟨by assumption, rfl⟩ | exact ⟨by assumption, by assumption⟩ | exact ⟨by omega, rfl⟩ | exact ⟨by omega, by omega⟩ | exact ⟨by decide, rfl⟩) rfl rfl rfl rfl dM_destroy_99 ?_
              refine lv_iload_n hx hb dM_destroy_102 rfl (lv_at hl 0 rfl) ?_
              refine m_iald hx hb hK hH (by first | exact ⟨rfl, rfl⟩ | exact ⟨by assumption, rfl⟩ | exact ⟨by assumption, by assumption⟩ | exact ⟨by omega, rfl⟩ | exact ⟨by omega, by omega⟩ | exact ⟨by decide, rfl⟩) rfl _ (by first | rfl | assumption) (show _ < 24 from by omega) (by decide) dM_destroy_103 ?_
              refine lv_iload_n hx hb dM_destroy_104 rfl (lv_at hl 2 rfl) ?_
              refine lv_icmp_ne hx hb dM_destroy_105 rfl (fun h_8 => ?_) (fun h_8 => ?_)
              · skip
                refine lv_aload_n hx hb dM_destroy_112 rfl (lv_at hl 1 rfl) ?_
                refine s_get hx hb hw inM hown hK hH 3 (by decide) (hw _ (gwd_5 (List.mem_of_getElem? (i := 43) rfl))) (by first | exact ⟨rfl, rfl⟩ | exact ⟨by assumption, rfl⟩ | exact ⟨by assumption, by assumption⟩ | exact ⟨by omega, rfl⟩ | exact ⟨by omega, by omega⟩ | exact ⟨by decide, rfl⟩) rfl rfl rfl rfl dM_destroy_113 ?_
                refine lv_iload_n hx hb dM_destroy_116 rfl (lv_at hl 0 rfl) ?_
                refine m_iald hx hb hK hH (by first | exact ⟨rfl, rfl⟩ | exact ⟨by assumption, rfl⟩ | exact ⟨by assumption, by assumption⟩ | exact ⟨by omega, rfl⟩ | exact ⟨by omega, by omega⟩ | exact ⟨by decide, rfl⟩) rfl _ (by first | rfl | assumption) (show _ < 24 from by omega) (by decide) dM_destroy_117 ?_
                refine m_iast hx hb hK hH hS (by first | exact ⟨rfl, rfl⟩ | exact ⟨by assumption, rfl⟩ | exact ⟨by assumption, by assumption⟩ | exact ⟨by omega, rfl⟩ | exact ⟨by omega, by omega⟩ | exact ⟨by decide, rfl⟩) rfl _ (by first | rfl | assumption) (show _ < 24 from by omega) (by decide) rfl dM_destroy_118 (fun H locs hH hS => ?_)
                refine lv_iinc (k := 0) (v := nI (i + 1)) hx hb dM_destroy_119 hl rfl (by rw [nI_succ]; rfl) (by decide) rfl (fun ls hl => ?_)
                have hl : lv_has ls 3 [(2, .int _), (0, .ref _), (1, .int _)] := hl
                refine lv_goto hx hb dM_destroy_122 rfl ?_
                exact ih (i + 1) (by omega) ls (lv_sub hl [0, 1, 2] rfl) H locs (by rw [show mLoseN J' a (i + 1) = mLose (mLoseN J' a i) a i from rfl, hJ2, mLose]; rw [mLose1]; first | (rw [if_pos (Or.inr ⟨h_5, h_7⟩), if_pos h_8]; exact hH) | (rw [if_pos (Or.inr ⟨h_5, h_7⟩), if_neg h_8]; exact hH) | (rw [if_neg (fun q => q.elim h_3 (fun q => h_7 q.2)), if_pos h_8]; exact hH) | (rw [if_neg (fun q => q.elim h_3 (fun q => h_7 q.2)), if_neg h_8]; exact hH)) hS
              · skip
                refine lv_iconst (v := 0) hx hb dM_destroy_108 (by decide) ?_
                refine lv_goto hx hb dM_destroy_109 rfl ?_
                refine m_iast hx hb hK hH hS (by first | exact ⟨rfl, rfl⟩ | exact ⟨by assumption, rfl⟩ | exact ⟨by assumption, by assumption⟩ | exact ⟨by omega, rfl⟩ | exact ⟨by omega, by omega⟩ | exact ⟨by decide, rfl⟩) rfl _ (by first | rfl | assumption) (show _ < 24 from by omega) (by decide) rfl dM_destroy_118 (fun H locs hH hS => ?_)
                refine lv_iinc (k := 0) (v := nI (i + 1)) hx hb dM_destroy_119 hl rfl (by rw [nI_succ]; rfl) (by decide) rfl (fun ls hl => ?_)
                have hl : lv_has ls 3 [(2, .int _), (0, .ref _), (1, .int _)] := hl
                refine lv_goto hx hb dM_destroy_122 rfl ?_
                exact ih (i + 1) (by omega) ls (lv_sub hl [0, 1, 2] rfl) H locs (by rw [show mLoseN J' a (i + 1) = mLose (mLoseN J' a i) a i from rfl, hJ2, mLose]; rw [mLose1]; first | (rw [if_pos (Or.inr ⟨h_5, h_7⟩), if_pos h_8]; exact hH) | (rw [if_pos (Or.inr ⟨h_5, h_7⟩), if_neg h_8]; exact hH) | (rw [if_neg (fun q => q.elim h_3 (fun q => h_7 q.2)), if_pos h_8]; exact hH) | (rw [if_neg (fun q => q.elim h_3 (fun q => h_7 q.2)), if_neg h_8]; exact hH)) hS
            · skip
              refine lv_aload_n hx hb dM_destroy_73 rfl (lv_at hl 1 rfl) ?_
              refine s_get hx hb hw inM hown hK hH 1 (by decide) (hw _ (gwd_5 (List.mem_of_getElem? (i := 41) rfl))) (by first | exact ⟨rfl, rfl⟩ | exact ⟨by assumption, rfl⟩ | exact ⟨by assumption, by assumption⟩ | exact ⟨by omega, rfl⟩ | exact ⟨by omega, by omega⟩ | exact ⟨by decide, rfl⟩) rfl rfl rfl rfl dM_destroy_74 ?_
              refine lv_iload_n hx hb dM_destroy_77 rfl (lv_at hl 0 rfl) ?_
              refine lv_bipush (v := 8) hx hb dM_destroy_78 (by decide) ?_
              refine m_iast hx hb hK hH hS (by first | exact ⟨rfl, rfl⟩ | exact ⟨by assumption, rfl⟩ | exact ⟨by assumption, by assumption⟩ | exact ⟨by omega, rfl⟩ | exact ⟨by omega, by omega⟩ | exact ⟨by decide, rfl⟩) rfl _ (by first | rfl | assumption) (show _ < 24 from by omega) (by decide) rfl dM_destroy_80 (fun H locs hH hS => ?_)
              refine lv_aload_n hx hb dM_destroy_81 rfl (lv_at hl 1 rfl) ?_
              refine s_get hx hb hw inM hown hK hH 5 (by decide) (hw _ (gwd_5 (List.mem_of_getElem? (i := 45) rfl))) (by first | exact ⟨rfl, rfl⟩ | exact ⟨by assumption, rfl⟩ | exact ⟨by assumption, by assumption⟩ | exact ⟨by omega, rfl⟩ | exact ⟨by omega, by omega⟩ | exact ⟨by decide, rfl⟩) rfl rfl rfl rfl dM_destroy_82 ?_
              refine lv_iload_n hx hb dM_destroy_85 rfl (lv_at hl 0 rfl) ?_
              refine lv_iconst (v := 0) hx hb dM_destroy_86 (by decide) ?_
              refine m_zast hx hb hK hH hS (by first | exact ⟨rfl, rfl⟩ | exact ⟨by assumption, rfl⟩ | exact ⟨by assumption, by assumption⟩ | exact ⟨by omega, rfl⟩ | exact ⟨by omega, by omega⟩ | exact ⟨by decide, rfl⟩) rfl _ (by first | rfl | assumption) (show _ < 24 from by omega) (by decide) (by first | exact Or.inl rfl | exact Or.inr rfl | exact bz_01 _ | assumption) rfl dM_destroy_87 (fun H locs hH hS => ?_)
              refine lv_aload_n hx hb dM_destroy_88 rfl (lv_at hl 1 rfl) ?_
              refine lv_iload_n hx hb dM_destroy_89 rfl (lv_at hl 0 rfl) ?_
              refine s_cvE (va_runV (As := [.int _]) (rest := []) ⟨hx, hb, hml, hown, hw⟩ (c_M_look l  (by omega)) (cwV 1 hw (gd_V (gwd_7 (List.mem_of_getElem? (i := 14) rfl)) (gwd_7 (List.mem_of_getElem? (i := 15) rfl)) (gwd_9 (List.mem_of_getElem? (i := 27) rfl)) (gwd_0 (List.mem_of_getElem? (i := 3) rfl)) (gwd_7 (List.mem_of_getElem? (i := 16) rfl))) rfl rfl rfl (by decide +kernel) ⟨Nat.le_of_ble_eq_true rfl, Nat.le_of_ble_eq_true rfl⟩) (gPre.V (n := (11, 0, 0)) hK hH (by first | exact ⟨rfl, rfl⟩ | exact ⟨by assumption, rfl⟩ | exact ⟨by assumption, by assumption⟩ | exact ⟨by omega, rfl⟩ | exact ⟨by omega, by omega⟩ | exact ⟨by decide, rfl⟩) rfl rfl) rfl rfl hl.1 rfl (lv_room (Nat.le_of_ble_eq_true rfl)) dM_destroy_90 ⟨Nat.zero_le _, Nat.zero_le _⟩) hS (fun H locs hH hS => ?_)
              refine lv_aload_n hx hb dM_destroy_93 rfl (lv_at hl 1 rfl) ?_
              refine s_get hx hb hw inM hown hK hH 3 (by decide) (hw _ (gwd_5 (List.mem_of_getElem? (i := 43) rfl))) (by first | exact ⟨rfl, rfl⟩ | exact ⟨by assumption, rfl⟩ | exact ⟨by assumption, by assumption⟩ | exact ⟨by omega, rfl⟩ | exact ⟨by omega, by omega⟩ | exact ⟨by decide, rfl⟩) rfl rfl rfl rfl dM_destroy_94 ?_
              refine lv_iload_n hx hb dM_destroy_97 rfl (lv_at hl 0 rfl) ?_
              refine lv_aload_n hx hb dM_destroy_98 rfl (lv_at hl 1 rfl) ?_
              refine s_get hx hb hw inM hown hK hH 3 (by decide) (hw _ (gwd_5 (List.mem_of_getElem? (i := 43) rfl))) (by first | exact ⟨rfl, rfl⟩ | exact ⟨by assumption, rfl⟩ | exact ⟨by assumption, by assumption⟩ | exact ⟨by omega, rfl⟩ | exact ⟨by omega, by omega⟩ | exact ⟨by decide, rfl⟩) rfl rfl rfl rfl dM_destroy_99 ?_
              refine lv_iload_n hx hb dM_destroy_102 rfl (lv_at hl 0 rfl) ?_
              refine m_iald hx hb hK hH (by first | exact ⟨rfl, rfl⟩ | exact ⟨by assumption, rfl⟩ | exact ⟨by assumption, by assumption⟩ | exact ⟨by omega, rfl⟩ | exact ⟨by omega, by omega⟩ | exact ⟨by decide, rfl⟩) rfl _ (by first | rfl | assumption) (show _ < 24 from by omega) (by decide) dM_destroy_103 ?_
              refine lv_iload_n hx hb dM_destroy_104 rfl (lv_at hl 2 rfl) ?_
              refine lv_icmp_ne hx hb dM_destroy_105 rfl (fun h_9 => ?_) (fun h_9 => ?_)
              · skip
                refine lv_aload_n hx hb dM_destroy_112 rfl (lv_at hl 1 rfl) ?_
                refine s_get hx hb hw inM hown hK hH 3 (by decide) (hw _ (gwd_5 (List.mem_of_getElem? (i := 43) rfl))) (by first | exact ⟨rfl, rfl⟩ | exact ⟨by assumption, rfl⟩ | exact ⟨by assumption, by assumption⟩ | exact ⟨by omega, rfl⟩ | exact ⟨by omega, by omega⟩ | exact ⟨by decide, rfl⟩) rfl rfl rfl rfl dM_destroy_113 ?_
                refine lv_iload_n hx hb dM_destroy_116 rfl (lv_at hl 0 rfl) ?_
                refine m_iald hx hb hK hH (by first | exact ⟨rfl, rfl⟩ | exact ⟨by assumption, rfl⟩ | exact ⟨by assumption, by assumption⟩ | exact ⟨by omega, rfl⟩ | exact ⟨by omega, by omega⟩ | exact ⟨by decide, rfl⟩) rfl _ (by first | rfl | assumption) (show _ < 24 from by omega) (by decide) dM_destroy_117 ?_
                refine m_iast hx hb hK hH hS (by first | exact ⟨rfl, rfl⟩ | exact ⟨by assumption, rfl⟩ | exact ⟨by assumption, by assumption⟩ | exact ⟨by omega, rfl⟩ | exact ⟨by omega, by omega⟩ | exact ⟨by decide, rfl⟩) rfl _ (by first | rfl | assumption) (show _ < 24 from by omega) (by decide) rfl dM_destroy_118 (fun H locs hH hS => ?_)
                refine lv_iinc (k := 0) (v := nI (i + 1)) hx hb dM_destroy_119 hl rfl (by rw [nI_succ]; rfl) (by decide) rfl (fun ls hl => ?_)
                have hl : lv_has ls 3 [(2, .int _), (0, .ref _), (1, .int _)] := hl
                refine lv_goto hx hb dM_destroy_122 rfl ?_
                exact ih (i + 1) (by omega) ls (lv_sub hl [0, 1, 2] rfl) H locs (by rw [show mLoseN J' a (i + 1) = mLose (mLoseN J' a i) a i from rfl, hJ2, mLose]; rw [mLose1]; first | (rw [if_pos (Or.inr ⟨h_5, h_7⟩), if_pos h_9]; exact hH) | (rw [if_pos (Or.inr ⟨h_5, h_7⟩), if_neg h_9]; exact hH) | (rw [if_neg (fun q => q.elim h_3 (fun q => h_7 q.2)), if_pos h_9]; exact hH) | (rw [if_neg (fun q => q.elim h_3 (fun q => h_7 q.2)), if_neg h_9]; exact hH)) hS
              · skip
                refine lv_iconst (v := 0) hx hb dM_destroy_108 (by decide) ?_
                refine lv_goto hx hb dM_destroy_109 rfl ?_
                refine m_iast hx hb hK hH hS (by first | exact ⟨rfl, rfl⟩ | exact ⟨by assumption, rfl⟩ | exact ⟨by assumption, by assumption⟩ | exact ⟨by omega, rfl⟩ | exact ⟨by omega, by omega⟩ | exact ⟨by decide, rfl⟩) rfl _ (by first | rfl | assumption) (show _ < 24 from by omega) (by decide) rfl dM_destroy_118 (fun H locs hH hS => ?_)
                refine lv_iinc (k := 0) (v := nI (i + 1)) hx hb dM_destroy_119 hl rfl (by rw [nI_succ]; rfl) (by decide) rfl (fun ls hl => ?_)
                have hl : lv_has ls 3 [(2, .int _), (0, .ref _), (1, .int _)] := hl
                refine lv_goto hx hb dM_destroy_122 rfl ?_
                exact ih (i + 1) (by omega) ls (lv_sub hl [0, 1, 2] rfl) H locs (by rw [show mLoseN J' a (i + 1) = mLose (mLoseN J' a i) a i from rfl, hJ2, mLose]; rw [mLose1]; first | (rw [if_pos (Or.inr ⟨h_5, h_7⟩), if_pos h_9]; exact hH) | (rw [if_pos (Or.inr ⟨h_5, h_7⟩), if_neg h_9]; exact hH) | (rw [if_neg (fun q => q.elim h_3 (fun q => h_7 q.2)), if_pos h_9]; exact hH) | (rw [if_neg (fun q => q.elim h_3 (fun q => h_7 q.2)), if_neg h_9]; exact hH)) hS
  refine lv_aload_n hx hb dM_destroy_0 rfl (lv_at hl 0 rfl) ?_
  refine lv_iload_n hx hb dM_destroy_1 rfl (lv_at hl 1 rfl) ?_
  refine s_ciE (va_runV (As := [.int _]) (rest := []) ⟨hx, hb, hml, hown, hw⟩ (c_M_isGuest l  (by assumption) (by assumption)) (cwV 1 hw (gd_V (gwd_7 (List.mem_of_getElem? (i := 21) rfl)) (gwd_7 (List.mem_of_getElem? (i := 22) rfl)) (gwd_9 (List.mem_of_getElem? (i := 28) rfl)) (gwd_0 (List.mem_of_getElem? (i := 3) rfl)) (gwd_7 (List.mem_of_getElem? (i := 23) rfl))) rfl rfl rfl (by decide +kernel) ⟨Nat.le_of_ble_eq_true rfl, Nat.le_of_ble_eq_true rfl⟩) (gPre.V (n := (11, 0, 0)) hK hH (by first | exact ⟨rfl, rfl⟩ | exact ⟨by assumption, rfl⟩ | exact ⟨by assumption, by assumption⟩ | exact ⟨by omega, rfl⟩ | exact ⟨by omega, by omega⟩ | exact ⟨by decide, rfl⟩) rfl rfl) rfl rfl hl.1 rfl (lv_room (Nat.le_of_ble_eq_true rfl)) dM_destroy_2 ⟨Nat.zero_le _, Nat.zero_le _⟩) hS (fun H locs hH hS => ?_)
  refine s_ifeq hx hb dM_destroy_5 rfl (fun h_10 => ?_) (fun h_10 => ?_)
  · skip
    refine lv_iconst (v := 0) hx hb dM_destroy_25 (by decide) ?_
    exact r_z hx hb hr hlk hK hH hS dM_destroy_26 (by first | exact Or.inl rfl | exact Or.inr rfl | exact bz_01 _ | assumption) (by first | (rw [mDestroy, if_pos (Or.inl h_10)]; exact ⟨rfl, rfl⟩) | (rw [mDestroy, if_pos (Or.inr ⟨rfl, rfl⟩)]; exact ⟨rfl, rfl⟩))
  · skip
    obtain ⟨ja, hja, rfl⟩ := gst_ix hk (h_10).1 (by rw [← hmd]; exact (h_10).2.1)
    have hia : ix (nI ja) = ja := ix_nI (by omega)
    refine lv_aload_n hx hb dM_destroy_8 rfl (lv_at hl 0 rfl) ?_
    refine s_get hx hb hw inM hown hK hH 13 (by decide) (hw _ (gwd_6 (List.mem_of_getElem? (i := 5) rfl))) (by first | exact ⟨rfl, rfl⟩ | exact ⟨by assumption, rfl⟩ | exact ⟨by assumption, by assumption⟩ | exact ⟨by omega, rfl⟩ | exact ⟨by omega, by omega⟩ | exact ⟨by decide, rfl⟩) rfl rfl rfl rfl dM_destroy_9 ?_
    refine lv_if_lt hx hb dM_destroy_12 rfl (fun h_11 => ?_) (fun h_11 => ?_)
    · skip
      refine lv_aload_n hx hb dM_destroy_27 rfl (lv_at hl 0 rfl) ?_
      refine s_get hx hb hw inM hown hK hH 8 (by decide) (hw _ (gwd_6 (List.mem_of_getElem? (i := 0) rfl))) (by first | exact ⟨rfl, rfl⟩ | exact ⟨by assumption, rfl⟩ | exact ⟨by assumption, by assumption⟩ | exact ⟨by omega, rfl⟩ | exact ⟨by omega, by omega⟩ | exact ⟨by decide, rfl⟩) rfl rfl rfl rfl dM_destroy_28 ?_
      refine lv_iload_n hx hb dM_destroy_31 rfl (lv_at hl 1 rfl) ?_
      refine lv_iconst (v := 0) hx hb dM_destroy_32 (by decide) ?_
      refine m_zast hx hb hK hH hS (by first | exact ⟨rfl, rfl⟩ | exact ⟨by assumption, rfl⟩ | exact ⟨by assumption, by assumption⟩ | exact ⟨by omega, rfl⟩ | exact ⟨by omega, by omega⟩ | exact ⟨by decide, rfl⟩) rfl _ (by first | rfl | assumption) (show _ < 7 from by first | assumption | decide | omega) (by decide) (by first | exact Or.inl rfl | exact Or.inr rfl | exact bz_01 _ | assumption) rfl dM_destroy_33 (fun H locs hH hS => ?_)
      refine lv_iconst (v := 0) hx hb dM_destroy_34 (by decide) ?_
      refine lv_istore_n hx hb dM_destroy_35 rfl hl (by decide) rfl (fun ls hl => ?_)
      have hl : lv_has ls 3 [(2, .int _), (0, .ref _), (1, .int _)] := hl
      exact key (iu J (13, 8, 0) ja 0) (by rw [mDestroy, if_neg (fun q => q.elim (fun q => q h_10) (fun q => q.1 h_11))]) (by rw [mDestroy, if_neg (fun q => q.elim (fun q => q h_10) (fun q => q.1 h_11)), hia]) 24 0 (by omega) ls (lv_sub hl [0, 1, 2] rfl) H locs hH hS
    · skip
      refine lv_aload_n hx hb dM_destroy_15 rfl (lv_at hl 0 rfl) ?_
      refine s_get hx hb hw inM hown hK hH 13 (by decide) (hw _ (gwd_6 (List.mem_of_getElem? (i := 5) rfl))) (by first | exact ⟨rfl, rfl⟩ | exact ⟨by assumption, rfl⟩ | exact ⟨by assumption, by assumption⟩ | exact ⟨by omega, rfl⟩ | exact ⟨by omega, by omega⟩ | exact ⟨by decide, rfl⟩) rfl rfl rfl rfl dM_destroy_16 ?_
      refine lv_iconst (v := 2) hx hb dM_destroy_19 (by decide) ?_
      refine lv_idiv hx hb dM_destroy_20 (by decide) ?_
      refine lv_iload_n hx hb dM_destroy_21 rfl (lv_at hl 1 rfl) ?_
      refine lv_icmp_ne hx hb dM_destroy_22 rfl (fun h_12 => ?_) (fun h_12 => ?_)
      · skip
        refine lv_aload_n hx hb dM_destroy_27 rfl (lv_at hl 0 rfl) ?_
        refine s_get hx hb hw inM hown hK hH 8 (by decide) (hw _ (gwd_6 (List.mem_of_getElem? (i := 0) rfl))) (by first | exact ⟨rfl, rfl⟩ | exact ⟨by assumption, rfl⟩ | exact ⟨by assumption, by assumption⟩ | exact ⟨by omega, rfl⟩ | exact ⟨by omega, by omega⟩ | exact ⟨by decide, rfl⟩) rfl rfl rfl rfl dM_destroy_28 ?_
        refine lv_iload_n hx hb dM_destroy_31 rfl (lv_at hl 1 rfl) ?_
        refine lv_iconst (v := 0) hx hb dM_destroy_32 (by decide) ?_
        refine m_zast hx hb hK hH hS (by first | exact ⟨rfl, rfl⟩ | exact ⟨by assumption, rfl⟩ | exact ⟨by assumption, by assumption⟩ | exact ⟨by omega, rfl⟩ | exact ⟨by omega, by omega⟩ | exact ⟨by decide, rfl⟩) rfl _ (by first | rfl | assumption) (show _ < 7 from by first | assumption | decide | omega) (by decide) (by first | exact Or.inl rfl | exact Or.inr rfl | exact bz_01 _ | assumption) rfl dM_destroy_33 (fun H locs hH hS => ?_)
        refine lv_iconst (v := 0) hx hb dM_destroy_34 (by decide) ?_
        refine lv_istore_n hx hb dM_destroy_35 rfl hl (by decide) rfl (fun ls hl => ?_)
        have hl : lv_has ls 3 [(2, .int _), (0, .ref _), (1, .int _)] := hl
        exact key (iu J (13, 8, 0) ja 0) (by rw [mDestroy, if_neg (fun q => q.elim (fun q => q h_10) (fun q => h_12 q.2))]) (by rw [mDestroy, if_neg (fun q => q.elim (fun q => q h_10) (fun q => h_12 q.2)), hia]) 24 0 (by omega) ls (lv_sub hl [0, 1, 2] rfl) H locs hH hS
      · skip
        refine lv_iconst (v := 0) hx hb dM_destroy_25 (by decide) ?_
        exact r_z hx hb hr hlk hK hH hS dM_destroy_26 (by first | exact Or.inl rfl | exact Or.inr rfl | exact bz_01 _ | assumption) (by first | (rw [mDestroy, if_pos (Or.inl h_10)]; exact ⟨rfl, rfl⟩) | (rw [mDestroy, if_pos (Or.inr ⟨h_11, h_12⟩)]; exact ⟨rfl, rfl⟩))
set_option maxHeartbeats 4000000 in
set_option maxRecDepth 100000 in
theorem c_M_load (l : Launch) {D : va_G} {c : Nat → ClassId} {sz : Nat} {ad : gN → Nat} {k : Nat} {I J : gI} {P : gP} {LG : Option Nat} {LP : Option (Nat × Nat)} {a v : Int32} (hk : k ≤ 6) (hmd : J (11, 0, 0) 7 = nI k) : Met l yM_load wM_load { frames := 1, cells := 0, slots := 0, locals := 21 } (gPre D c sz [.ref (ad (11, 0, 0)), .int a, .int v] (ad, k, I, J, P, LG, LP)) (va_Qi (fun r u => r = (mLoad J a v).1 ∧ u = (ad, k, I, (mLoad J a v).2, P, LG, LP)) (gB D c sz) (gA sz)) 0 0 (gA sz) := by
  refine Met.ofW (cc := cM_load) (maxL := 3) (ret := (some .boolean)) (by decide) rfl ?_
  intro p e s m args below meth cd s₁ B hml hv
  obtain ⟨rfl, hK, hH⟩ := hv
  have hx := B.exec
  have hb := B.bytes
  have hr := B.returns
  have hts := atoms_spec (ws := wM_load) B.pre
  have hw : ∀ w ∈ gWd, w.before _ s = true := fun w h => hts w (List.mem_cons_of_mem _ h)
  have hown : s.vm.findClass RM = some m.cls := findClass_of_methodNamed B.named
  have hlk := B.notSynchronized
  have hS : va_S (gA sz) s.heap s.heap [] := va_S.rf
  have hH : gW D c sz ad k I J P LG LP s.heap := hH
  have hl := lv_entry ([.ref (ad (11, 0, 0)), .int a, .int v]) (n := 3) (Nat.le_of_ble_eq_true rfl)
  rw [lg_entry_eq]
  generalize (lg_sl ([.ref (ad (11, 0, 0)), .int a, .int v]) ++ List.replicate (3 - (lg_sl ([.ref (ad (11, 0, 0)), .int a, .int v])).length) Slot.unset).toArray = ls at hl ⊢
  have hl : lv_has ls 3 [(0, .ref (ad (11, 0, 0))), (1, .int a), (2, .int v)] := hl
  refine lv_aload_n hx hb dM_load_0 rfl (lv_at hl 0 rfl) ?_
  refine s_get hx hb hw inM hown hK hH 13 (by decide) (hw _ (gwd_6 (List.mem_of_getElem? (i := 5) rfl))) (by first | exact ⟨rfl, rfl⟩ | exact ⟨by assumption, rfl⟩ | exact ⟨by assumption, by assumption⟩ | exact ⟨by omega, rfl⟩ | exact ⟨by omega, by omega⟩ | exact ⟨by decide, rfl⟩) rfl rfl rfl rfl dM_load_1 ?_
  refine lv_if_ge hx hb dM_load_4 rfl (fun h_1 => ?_) (fun h_1 => ?_)
  · skip
    refine lv_iconst (v := 0) hx hb dM_load_24 (by decide) ?_
    exact r_z hx hb hr hlk hK hH hS dM_load_25 (by first | exact Or.inl rfl | exact Or.inr rfl | exact bz_01 _ | assumption) (by first | (rw [mLoad, if_pos (Or.inl h_1)]; exact ⟨rfl, rfl⟩) | (rw [mLoad, if_pos (Or.inr (Or.inl rfl))]; exact ⟨rfl, rfl⟩) | (rw [mLoad, if_pos (Or.inr (Or.inr (Or.inl rfl)))]; exact ⟨rfl, rfl⟩) | (rw [mLoad, if_pos (Or.inr (Or.inr (Or.inr rfl)))]; exact ⟨rfl, rfl⟩) | (rw [mLoad, if_neg (fun q => q.elim h_1 (fun q => q.elim (fun q => q rfl) (fun q => q.elim rfl (fun q => q rfl)))), hia]; exact ⟨rfl, rfl⟩))
  · skip
    refine lv_aload_n hx hb dM_load_7 rfl (lv_at hl 0 rfl) ?_
    refine lv_iload_n hx hb dM_load_8 rfl (lv_at hl 1 rfl) ?_
    refine s_ciE (va_runV (As := [.int _]) (rest := []) ⟨hx, hb, hml, hown, hw⟩ (c_M_isGuest l  (by assumption) (by assumption)) (cwV 1 hw (gd_V (gwd_7 (List.mem_of_getElem? (i := 21) rfl)) (gwd_7 (List.mem_of_getElem? (i := 22) rfl)) (gwd_9 (List.mem_of_getElem? (i := 28) rfl)) (gwd_0 (List.mem_of_getElem? (i := 3) rfl)) (gwd_7 (List.mem_of_getElem? (i := 23) rfl))) rfl rfl rfl (by decide +kernel) ⟨Nat.le_of_ble_eq_true rfl, Nat.le_of_ble_eq_true rfl⟩) (gPre.V (n := (11, 0, 0)) hK hH (by first | exact ⟨rfl, rfl⟩ | exact ⟨by assumption, rfl⟩ | exact ⟨by assumption, by assumption⟩ | exact ⟨by omega, rfl⟩ | exact ⟨by omega, by omega⟩ | exact ⟨by decide, rfl⟩) rfl rfl) rfl rfl hl.1 rfl (lv_room (Nat.le_of_ble_eq_true rfl)) dM_load_9 ⟨Nat.zero_le _, Nat.zero_le _⟩) hS (fun H locs hH hS => ?_)
    refine s_ifeq hx hb dM_load_12 rfl (fun h_2 => ?_) (fun h_2 => ?_)
    · skip
      refine lv_iconst (v := 0) hx hb dM_load_24 (by decide) ?_
      exact r_z hx hb hr hlk hK hH hS dM_load_25 (by first | exact Or.inl rfl | exact Or.inr rfl | exact bz_01 _ | assumption) (by first | (rw [mLoad, if_pos (Or.inl h_1)]; exact ⟨rfl, rfl⟩) | (rw [mLoad, if_pos (Or.inr (Or.inl h_2))]; exact ⟨rfl, rfl⟩) | (rw [mLoad, if_pos (Or.inr (Or.inr (Or.inl rfl)))]; exact ⟨rfl, rfl⟩) | (rw [mLoad, if_pos (Or.inr (Or.inr (Or.inr rfl)))]; exact ⟨rfl, rfl⟩) | (rw [mLoad, if_neg (fun q => q.elim h_1 (fun q => q.elim (fun q => q h_2) (fun q => q.elim rfl (fun q => q rfl)))), hia]; exact ⟨rfl, rfl⟩))
    · skip
      refine lv_iload_n hx hb dM_load_15 rfl (lv_at hl 2 rfl) ?_
      refine lv_if_lt hx hb dM_load_16 rfl (fun h_3 => ?_) (fun h_3 => ?_)
      · skip
        refine lv_iconst (v := 0) hx hb dM_load_24 (by decide) ?_
        exact r_z hx hb hr hlk hK hH hS dM_load_25 (by first | exact Or.inl rfl | exact Or.inr rfl | exact bz_01 _ | assumption) (by first | (rw [mLoad, if_pos (Or.inl h_1)]; exact ⟨rfl, rfl⟩) | (rw [mLoad, if_pos (Or.inr (Or.inl h_2))]; exact ⟨rfl, rfl⟩) | (rw [mLoad, if_pos (Or.inr (Or.inr (Or.inl h_3)))]; exact ⟨rfl, rfl⟩) | (rw [mLoad, if_pos (Or.inr (Or.inr (Or.inr rfl)))]; exact ⟨rfl, rfl⟩) | (rw [mLoad, if_neg (fun q => q.elim h_1 (fun q => q.elim (fun q => q h_2) (fun q => q.elim h_3 (fun q => q rfl)))), hia]; exact ⟨rfl, rfl⟩))
      · skip
        refine lv_iload_n hx hb dM_load_19 rfl (lv_at hl 2 rfl) ?_
        refine lv_iconst (v := 1) hx hb dM_load_20 (by decide) ?_
        refine lv_icmp_le hx hb dM_load_21 rfl (fun h_4 => ?_) (fun h_4 => ?_)
        · skip
          obtain ⟨ja, hja, rfl⟩ := gst_ix hk (h_2).1 (by rw [← hmd]; exact (h_2).2.1)
          have hia : ix (nI ja) = ja := ix_nI (by omega)
          refine lv_aload_n hx hb dM_load_26 rfl (lv_at hl 0 rfl) ?_
          refine lv_iconst (v := 2) hx hb dM_load_27 (by decide) ?_
          refine lv_iload_n hx hb dM_load_28 rfl (lv_at hl 1 rfl) ?_
          refine lv_imul hx hb dM_load_29 ?_
          refine lv_iload_n hx hb dM_load_30 rfl (lv_at hl 2 rfl) ?_
          refine lv_iadd hx hb dM_load_31 ?_
          refine m_put hx hb hw inM tyM_ok nM hown hK hH hS 13 (by decide) (hw _ (gwd_6 (List.mem_of_getElem? (i := 5) rfl))) (by first | exact ⟨rfl, rfl⟩ | exact ⟨by assumption, rfl⟩ | exact ⟨by assumption, by assumption⟩ | exact ⟨by omega, rfl⟩ | exact ⟨by omega, by omega⟩ | exact ⟨by decide, rfl⟩) rfl rfl rfl rfl rfl rfl rfl (Nat.le_of_ble_eq_true rfl) rfl dM_load_32 (fun H locs hH hS => ?_)
          refine lv_aload_n hx hb dM_load_35 rfl (lv_at hl 0 rfl) ?_
          refine s_get hx hb hw inM hown hK hH 9 (by decide) (hw _ (gwd_6 (List.mem_of_getElem? (i := 1) rfl))) (by first | exact ⟨rfl, rfl⟩ | exact ⟨by assumption, rfl⟩ | exact ⟨by assumption, by assumption⟩ | exact ⟨by omega, rfl⟩ | exact ⟨by omega, by omega⟩ | exact ⟨by decide, rfl⟩) rfl rfl rfl rfl dM_load_36 ?_
          refine lv_iload_n hx hb dM_load_39 rfl (lv_at hl 1 rfl) ?_
          refine lv_iconst (v := 1) hx hb dM_load_40 (by decide) ?_
          refine m_zast hx hb hK hH hS (by first | exact ⟨rfl, rfl⟩ | exact ⟨by assumption, rfl⟩ | exact ⟨by assumption, by assumption⟩ | exact ⟨by omega, rfl⟩ | exact ⟨by omega, by omega⟩ | exact ⟨by decide, rfl⟩) rfl _ (by first | rfl | assumption) (show _ < 7 from by first | assumption | decide | omega) (by decide) (by first | exact Or.inl rfl | exact Or.inr rfl | exact bz_01 _ | assumption) rfl dM_load_41 (fun H locs hH hS => ?_)
          refine lv_iconst (v := 1) hx hb dM_load_42 (by decide) ?_
          exact r_z hx hb hr hlk hK hH hS dM_load_43 (by first | exact Or.inl rfl | exact Or.inr rfl | exact bz_01 _ | assumption) (by first | (rw [mLoad, if_pos (Or.inl h_1)]; exact ⟨rfl, rfl⟩) | (rw [mLoad, if_pos (Or.inr (Or.inl h_2))]; exact ⟨rfl, rfl⟩) | (rw [mLoad, if_pos (Or.inr (Or.inr (Or.inl h_3)))]; exact ⟨rfl, rfl⟩) | (rw [mLoad, if_pos (Or.inr (Or.inr (Or.inr h_4)))]; exact ⟨rfl, rfl⟩) | (rw [mLoad, if_neg (fun q => q.elim h_1 (fun q => q.elim (fun q => q h_2) (fun q => q.elim h_3 (fun q => q h_4)))), hia]; exact ⟨rfl, rfl⟩))
        · skip
          refine lv_iconst (v := 0) hx hb dM_load_24 (by decide) ?_
          exact r_z hx hb hr hlk hK hH hS dM_load_25 (by first | exact Or.inl rfl | exact Or.inr rfl | exact bz_01 _ | assumption) (by first | (rw [mLoad, if_pos (Or.inl h_1)]; exact ⟨rfl, rfl⟩) | (rw [mLoad, if_pos (Or.inr (Or.inl h_2))]; exact ⟨rfl, rfl⟩) | (rw [mLoad, if_pos (Or.inr (Or.inr (Or.inl h_3)))]; exact ⟨rfl, rfl⟩) | (rw [mLoad, if_pos (Or.inr (Or.inr (Or.inr h_4)))]; exact ⟨rfl, rfl⟩) | (rw [mLoad, if_neg (fun q => q.elim h_1 (fun q => q.elim (fun q => q h_2) (fun q => q.elim h_3 (fun q => q h_4)))), hia]; exact ⟨rfl, rfl⟩))
set_option maxHeartbeats 4000000 in
set_option maxRecDepth 100000 in
theorem c_M_put (l : Launch) {D : va_G} {c : Nat → ClassId} {sz : Nat} {ad : gN → Nat} {k : Nat} {I J : gI} {P : gP} {LG : Option Nat} {LP : Option (Nat × Nat)}   : Met l yM_put wM_put { frames := 0, cells := 0, slots := 0, locals := 0 } (gPre D c sz [.ref (ad (11, 0, 0))] (ad, k, I, J, P, LG, LP)) (va_Qi (fun r u => r = (mPut J).1 ∧ u = (ad, k, I, (mPut J).2, P, LG, LP)) (gB D c sz) (gA sz)) 0 0 (gA sz) := by
  refine Met.ofW (cc := cM_put) (maxL := 2) (ret := (some .boolean)) (by decide) rfl ?_
  intro p e s m args below meth cd s₁ B hml hv
  obtain ⟨rfl, hK, hH⟩ := hv
  have hx := B.exec
  have hb := B.bytes
  have hr := B.returns
  have hts := atoms_spec (ws := wM_put) B.pre
  have hw : ∀ w ∈ gWd, w.before _ s = true := fun w h => hts w (List.mem_cons_of_mem _ h)
  have hown : s.vm.findClass RM = some m.cls := findClass_of_methodNamed B.named
  have hlk := B.notSynchronized
  have hS : va_S (gA sz) s.heap s.heap [] := va_S.rf
  have hH : gW D c sz ad k I J P LG LP s.heap := hH
  have hl := lv_entry ([.ref (ad (11, 0, 0))]) (n := 2) (Nat.le_of_ble_eq_true rfl)
  rw [lg_entry_eq]
  generalize (lg_sl ([.ref (ad (11, 0, 0))]) ++ List.replicate (2 - (lg_sl ([.ref (ad (11, 0, 0))])).length) Slot.unset).toArray = ls at hl ⊢
  have hl : lv_has ls 2 [(0, .ref (ad (11, 0, 0)))] := hl
  refine lv_aload_n hx hb dM_put_0 rfl (lv_at hl 0 rfl) ?_
  refine s_get hx hb hw inM hown hK hH 13 (by decide) (hw _ (gwd_6 (List.mem_of_getElem? (i := 5) rfl))) (by first | exact ⟨rfl, rfl⟩ | exact ⟨by assumption, rfl⟩ | exact ⟨by assumption, by assumption⟩ | exact ⟨by omega, rfl⟩ | exact ⟨by omega, by omega⟩ | exact ⟨by decide, rfl⟩) rfl rfl rfl rfl dM_put_1 ?_
  refine lv_if_lt hx hb dM_put_4 rfl (fun h_1 => ?_) (fun h_1 => ?_)
  · skip
    refine lv_iconst (v := 0) hx hb dM_put_11 (by decide) ?_
    refine lv_istore_n hx hb dM_put_12 rfl hl (by decide) rfl (fun ls hl => ?_)
    have hl : lv_has ls 2 [(1, .int _), (0, .ref _)] := hl
    refine lv_aload_n hx hb dM_put_13 rfl (lv_at hl 1 rfl) ?_
    refine lv_iconst (v := -1) hx hb dM_put_14 (by decide) ?_
    refine m_put hx hb hw inM tyM_ok nM hown hK hH hS 13 (by decide) (hw _ (gwd_6 (List.mem_of_getElem? (i := 5) rfl))) (by first | exact ⟨rfl, rfl⟩ | exact ⟨by assumption, rfl⟩ | exact ⟨by assumption, by assumption⟩ | exact ⟨by omega, rfl⟩ | exact ⟨by omega, by omega⟩ | exact ⟨by decide, rfl⟩) rfl rfl rfl rfl rfl rfl rfl (Nat.le_of_ble_eq_true rfl) rfl dM_put_15 (fun H locs hH hS => ?_)
    refine lv_iload_n hx hb dM_put_18 rfl (lv_at hl 0 rfl) ?_
    exact r_z hx hb hr hlk hK hH hS dM_put_19 (by first | exact Or.inl rfl | exact Or.inr rfl | exact bz_01 _ | assumption) (by simp [mPut, h_1])
  · skip
    refine lv_iconst (v := 1) hx hb dM_put_7 (by decide) ?_
    refine lv_goto hx hb dM_put_8 rfl ?_
    refine lv_istore_n hx hb dM_put_12 rfl hl (by decide) rfl (fun ls hl => ?_)
    have hl : lv_has ls 2 [(1, .int _), (0, .ref _)] := hl
    refine lv_aload_n hx hb dM_put_13 rfl (lv_at hl 1 rfl) ?_
    refine lv_iconst (v := -1) hx hb dM_put_14 (by decide) ?_
    refine m_put hx hb hw inM tyM_ok nM hown hK hH hS 13 (by decide) (hw _ (gwd_6 (List.mem_of_getElem? (i := 5) rfl))) (by first | exact ⟨rfl, rfl⟩ | exact ⟨by assumption, rfl⟩ | exact ⟨by assumption, by assumption⟩ | exact ⟨by omega, rfl⟩ | exact ⟨by omega, by omega⟩ | exact ⟨by decide, rfl⟩) rfl rfl rfl rfl rfl rfl rfl (Nat.le_of_ble_eq_true rfl) rfl dM_put_15 (fun H locs hH hS => ?_)
    refine lv_iload_n hx hb dM_put_18 rfl (lv_at hl 0 rfl) ?_
    exact r_z hx hb hr hlk hK hH hS dM_put_19 (by first | exact Or.inl rfl | exact Or.inr rfl | exact bz_01 _ | assumption) (by simp [mPut, h_1])
set_option maxHeartbeats 4000000 in
set_option maxRecDepth 100000 in
theorem c_M_set (l : Launch) {D : va_G} {c : Nat → ClassId} {sz : Nat} {ad : gN → Nat} {k : Nat} {I J : gI} {P : gP} {LG : Option Nat} {LP : Option (Nat × Nat)} {x y : Int32}  : Met l yM_set wM_set { frames := 0, cells := 0, slots := 0, locals := 0 } (gPre D c sz [.ref (ad (11, 0, 0)), .int x, .int y] (ad, k, I, J, P, LG, LP)) (va_Qi (fun r u => r = (mSet J x y).1 ∧ u = (ad, k, I, (mSet J x y).2, P, LG, LP)) (gB D c sz) (gA sz)) 0 0 (gA sz) := by
  refine Met.ofW (cc := cM_set) (maxL := 3) (ret := (some .boolean)) (by decide) rfl ?_
  intro p e s m args below meth cd s₁ B hml hv
  obtain ⟨rfl, hK, hH⟩ := hv
  have hx := B.exec
  have hb := B.bytes
  have hr := B.returns
  have hts := atoms_spec (ws := wM_set) B.pre
  have hw : ∀ w ∈ gWd, w.before _ s = true := fun w h => hts w (List.mem_cons_of_mem _ h)
  have hown : s.vm.findClass RM = some m.cls := findClass_of_methodNamed B.named
  have hlk := B.notSynchronized
  have hS : va_S (gA sz) s.heap s.heap [] := va_S.rf
  have hH : gW D c sz ad k I J P LG LP s.heap := hH
  have hl := lv_entry ([.ref (ad (11, 0, 0)), .int x, .int y]) (n := 3) (Nat.le_of_ble_eq_true rfl)
  rw [lg_entry_eq]
  generalize (lg_sl ([.ref (ad (11, 0, 0)), .int x, .int y]) ++ List.replicate (3 - (lg_sl ([.ref (ad (11, 0, 0)), .int x, .int y])).length) Slot.unset).toArray = ls at hl ⊢
  have hl : lv_has ls 3 [(0, .ref (ad (11, 0, 0))), (1, .int x), (2, .int y)] := hl
  refine lv_iload_n hx hb dM_set_0 rfl (lv_at hl 1 rfl) ?_
  refine lv_if_lt hx hb dM_set_1 rfl (fun h_1 => ?_) (fun h_1 => ?_)
  · skip
    refine lv_iconst (v := 0) hx hb dM_set_16 (by decide) ?_
    exact r_z hx hb hr hlk hK hH hS dM_set_17 (by first | exact Or.inl rfl | exact Or.inr rfl | exact bz_01 _ | assumption) (by first | (rw [mSet, if_pos (Or.inl h_1)]; exact ⟨rfl, rfl⟩) | (rw [mSet, if_pos (Or.inr (Or.inl rfl))]; exact ⟨rfl, rfl⟩) | (rw [mSet, if_pos (Or.inr (Or.inr rfl))]; exact ⟨rfl, rfl⟩) | (rw [mSet, if_neg (fun q => q.elim h_1 (fun q => q.elim rfl (fun q => q rfl))), hi2]; exact ⟨rfl, rfl⟩))
  · skip
    refine lv_iload_n hx hb dM_set_4 rfl (lv_at hl 1 rfl) ?_
    refine lv_iconst (v := 3) hx hb dM_set_5 (by decide) ?_
    refine lv_icmp_gt hx hb dM_set_6 rfl (fun h_2 => ?_) (fun h_2 => ?_)
    · skip
      refine lv_iconst (v := 0) hx hb dM_set_16 (by decide) ?_
      exact r_z hx hb hr hlk hK hH hS dM_set_17 (by first | exact Or.inl rfl | exact Or.inr rfl | exact bz_01 _ | assumption) (by first | (rw [mSet, if_pos (Or.inl h_1)]; exact ⟨rfl, rfl⟩) | (rw [mSet, if_pos (Or.inr (Or.inl h_2))]; exact ⟨rfl, rfl⟩) | (rw [mSet, if_pos (Or.inr (Or.inr rfl))]; exact ⟨rfl, rfl⟩) | (rw [mSet, if_neg (fun q => q.elim h_1 (fun q => q.elim h_2 (fun q => q rfl))), hi2]; exact ⟨rfl, rfl⟩))
    · skip
      obtain ⟨i4, hi4, rfl⟩ := ix_le 3 3 rfl (by decide) h_1 (Int32.not_lt.mp h_2)
      have hi2 : ix (nI i4) = i4 := ix_nI (by omega)
      refine lv_aload_n hx hb dM_set_9 rfl (lv_at hl 0 rfl) ?_
      refine s_get hx hb hw inM hown hK hH 13 (by decide) (hw _ (gwd_6 (List.mem_of_getElem? (i := 5) rfl))) (by first | exact ⟨rfl, rfl⟩ | exact ⟨by assumption, rfl⟩ | exact ⟨by assumption, by assumption⟩ | exact ⟨by omega, rfl⟩ | exact ⟨by omega, by omega⟩ | exact ⟨by decide, rfl⟩) rfl rfl rfl rfl dM_set_10 ?_
      refine lv_if_lt hx hb dM_set_13 rfl (fun h_3 => ?_) (fun h_3 => ?_)
      · skip
        refine lv_aload_n hx hb dM_set_18 rfl (lv_at hl 0 rfl) ?_
        refine s_get hx hb hw inM hown hK hH 15 (by decide) (hw _ (gwd_6 (List.mem_of_getElem? (i := 7) rfl))) (by first | exact ⟨rfl, rfl⟩ | exact ⟨by assumption, rfl⟩ | exact ⟨by assumption, by assumption⟩ | exact ⟨by omega, rfl⟩ | exact ⟨by omega, by omega⟩ | exact ⟨by decide, rfl⟩) rfl rfl rfl rfl dM_set_19 ?_
        refine lv_iload_n hx hb dM_set_22 rfl (lv_at hl 1 rfl) ?_
        refine lv_iload_n hx hb dM_set_23 rfl (lv_at hl 2 rfl) ?_
        refine m_iast hx hb hK hH hS (by first | exact ⟨rfl, rfl⟩ | exact ⟨by assumption, rfl⟩ | exact ⟨by assumption, by assumption⟩ | exact ⟨by omega, rfl⟩ | exact ⟨by omega, by omega⟩ | exact ⟨by decide, rfl⟩) rfl _ (by first | rfl | assumption) (show _ < 4 from by first | assumption | decide | omega) (by decide) rfl dM_set_24 (fun H locs hH hS => ?_)
        refine lv_iconst (v := 1) hx hb dM_set_25 (by decide) ?_
        exact r_z hx hb hr hlk hK hH hS dM_set_26 (by first | exact Or.inl rfl | exact Or.inr rfl | exact bz_01 _ | assumption) (by first | (rw [mSet, if_pos (Or.inl h_1)]; exact ⟨rfl, rfl⟩) | (rw [mSet, if_pos (Or.inr (Or.inl h_2))]; exact ⟨rfl, rfl⟩) | (rw [mSet, if_pos (Or.inr (Or.inr h_3))]; exact ⟨rfl, rfl⟩) | (rw [mSet, if_neg (fun q => q.elim h_1 (fun q => q.elim h_2 (fun q => q h_3))), hi2]; exact ⟨rfl, rfl⟩))
      · skip
        refine lv_iconst (v := 0) hx hb dM_set_16 (by decide) ?_
        exact r_z hx hb hr hlk hK hH hS dM_set_17 (by first | exact Or.inl rfl | exact Or.inr rfl | exact bz_01 _ | assumption) (by first | (rw [mSet, if_pos (Or.inl h_1)]; exact ⟨rfl, rfl⟩) | (rw [mSet, if_pos (Or.inr (Or.inl h_2))]; exact ⟨rfl, rfl⟩) | (rw [mSet, if_pos (Or.inr (Or.inr h_3))]; exact ⟨rfl, rfl⟩) | (rw [mSet, if_neg (fun q => q.elim h_1 (fun q => q.elim h_2 (fun q => q h_3))), hi2]; exact ⟨rfl, rfl⟩))
set_option maxHeartbeats 4000000 in
set_option maxRecDepth 100000 in
theorem c_M_register (l : Launch) {D : va_G} {c : Nat → ClassId} {sz : Nat} {ad : gN → Nat} {k : Nat} {I J : gI} {P : gP} {LG : Option Nat} {LP : Option (Nat × Nat)} {x : Int32}  : Met l yM_register wM_register { frames := 0, cells := 0, slots := 0, locals := 0 } (gPre D c sz [.ref (ad (11, 0, 0)), .int x] (ad, k, I, J, P, LG, LP)) (va_Qi (fun r u => r = mReg J x ∧ u = (ad, k, I, J, P, LG, LP)) (gB D c sz) (gA sz)) 0 0 (gA sz) := by
  refine Met.ofW (cc := cM_register) (maxL := 2) (ret := (some .int)) (by decide) rfl ?_
  intro p e s m args below meth cd s₁ B hml hv
  obtain ⟨rfl, hK, hH⟩ := hv
  have hx := B.exec
  have hb := B.bytes
  have hr := B.returns
  have hts := atoms_spec (ws := wM_register) B.pre
  have hw : ∀ w ∈ gWd, w.before _ s = true := fun w h => hts w (List.mem_cons_of_mem _ h)
  have hown : s.vm.findClass RM = some m.cls := findClass_of_methodNamed B.named
  have hlk := B.notSynchronized
  have hS : va_S (gA sz) s.heap s.heap [] := va_S.rf
  have hH : gW D c sz ad k I J P LG LP s.heap := hH
  have hl := lv_entry ([.ref (ad (11, 0, 0)), .int x]) (n := 2) (Nat.le_of_ble_eq_true rfl)
  rw [lg_entry_eq]
  generalize (lg_sl ([.ref (ad (11, 0, 0)), .int x]) ++ List.replicate (2 - (lg_sl ([.ref (ad (11, 0, 0)), .int x])).length) Slot.unset).toArray = ls at hl ⊢
  have hl : lv_has ls 2 [(0, .ref (ad (11, 0, 0))), (1, .int x)] := hl
  refine lv_iload_n hx hb dM_register_0 rfl (lv_at hl 1 rfl) ?_
  refine lv_if_lt hx hb dM_register_1 rfl (fun h_1 => ?_) (fun h_1 => ?_)
  · skip
    refine lv_iconst (v := 0) hx hb dM_register_16 (by decide) ?_
    refine lv_goto hx hb dM_register_17 rfl ?_
    exact r_i hx hb hr hlk hK hH hS dM_register_26 (by first | (rw [mReg, if_pos (Or.inl h_1)]; exact ⟨rfl, rfl⟩) | (rw [mReg, if_pos (Or.inr (Or.inl rfl))]; exact ⟨rfl, rfl⟩) | (rw [mReg, if_pos (Or.inr (Or.inr rfl))]; exact ⟨rfl, rfl⟩) | (rw [mReg, if_neg (fun q => q.elim h_1 (fun q => q.elim rfl (fun q => q rfl))), hi2]; exact ⟨rfl, rfl⟩))
  · skip
    refine lv_iload_n hx hb dM_register_4 rfl (lv_at hl 1 rfl) ?_
    refine lv_iconst (v := 3) hx hb dM_register_5 (by decide) ?_
    refine lv_icmp_gt hx hb dM_register_6 rfl (fun h_2 => ?_) (fun h_2 => ?_)
    · skip
      refine lv_iconst (v := 0) hx hb dM_register_16 (by decide) ?_
      refine lv_goto hx hb dM_register_17 rfl ?_
      exact r_i hx hb hr hlk hK hH hS dM_register_26 (by first | (rw [mReg, if_pos (Or.inl h_1)]; exact ⟨rfl, rfl⟩) | (rw [mReg, if_pos (Or.inr (Or.inl h_2))]; exact ⟨rfl, rfl⟩) | (rw [mReg, if_pos (Or.inr (Or.inr rfl))]; exact ⟨rfl, rfl⟩) | (rw [mReg, if_neg (fun q => q.elim h_1 (fun q => q.elim h_2 (fun q => q rfl))), hi2]; exact ⟨rfl, rfl⟩))
    · skip
      obtain ⟨i4, hi4, rfl⟩ := ix_le 3 3 rfl (by decide) h_1 (Int32.not_lt.mp h_2)
      have hi2 : ix (nI i4) = i4 := ix_nI (by omega)
      refine lv_aload_n hx hb dM_register_9 rfl (lv_at hl 0 rfl) ?_
      refine s_get hx hb hw inM hown hK hH 13 (by decide) (hw _ (gwd_6 (List.mem_of_getElem? (i := 5) rfl))) (by first | exact ⟨rfl, rfl⟩ | exact ⟨by assumption, rfl⟩ | exact ⟨by assumption, by assumption⟩ | exact ⟨by omega, rfl⟩ | exact ⟨by omega, by omega⟩ | exact ⟨by decide, rfl⟩) rfl rfl rfl rfl dM_register_10 ?_
      refine lv_if_lt hx hb dM_register_13 rfl (fun h_3 => ?_) (fun h_3 => ?_)
      · skip
        refine lv_aload_n hx hb dM_register_20 rfl (lv_at hl 0 rfl) ?_
        refine s_get hx hb hw inM hown hK hH 15 (by decide) (hw _ (gwd_6 (List.mem_of_getElem? (i := 7) rfl))) (by first | exact ⟨rfl, rfl⟩ | exact ⟨by assumption, rfl⟩ | exact ⟨by assumption, by assumption⟩ | exact ⟨by omega, rfl⟩ | exact ⟨by omega, by omega⟩ | exact ⟨by decide, rfl⟩) rfl rfl rfl rfl dM_register_21 ?_
        refine lv_iload_n hx hb dM_register_24 rfl (lv_at hl 1 rfl) ?_
        refine m_iald hx hb hK hH (by first | exact ⟨rfl, rfl⟩ | exact ⟨by assumption, rfl⟩ | exact ⟨by assumption, by assumption⟩ | exact ⟨by omega, rfl⟩ | exact ⟨by omega, by omega⟩ | exact ⟨by decide, rfl⟩) rfl _ (by first | rfl | assumption) (show _ < 4 from by first | assumption | decide | omega) (by decide) dM_register_25 ?_
        exact r_i hx hb hr hlk hK hH hS dM_register_26 (by first | (rw [mReg, if_pos (Or.inl h_1)]; exact ⟨rfl, rfl⟩) | (rw [mReg, if_pos (Or.inr (Or.inl h_2))]; exact ⟨rfl, rfl⟩) | (rw [mReg, if_pos (Or.inr (Or.inr h_3))]; exact ⟨rfl, rfl⟩) | (rw [mReg, if_neg (fun q => q.elim h_1 (fun q => q.elim h_2 (fun q => q h_3))), hi2]; exact ⟨rfl, rfl⟩))
      · skip
        refine lv_iconst (v := 0) hx hb dM_register_16 (by decide) ?_
        refine lv_goto hx hb dM_register_17 rfl ?_
        exact r_i hx hb hr hlk hK hH hS dM_register_26 (by first | (rw [mReg, if_pos (Or.inl h_1)]; exact ⟨rfl, rfl⟩) | (rw [mReg, if_pos (Or.inr (Or.inl h_2))]; exact ⟨rfl, rfl⟩) | (rw [mReg, if_pos (Or.inr (Or.inr h_3))]; exact ⟨rfl, rfl⟩) | (rw [mReg, if_neg (fun q => q.elim h_1 (fun q => q.elim h_2 (fun q => q h_3))), hi2]; exact ⟨rfl, rfl⟩))
set_option maxHeartbeats 4000000 in
set_option maxRecDepth 100000 in
theorem c_M_owner (l : Launch) {D : va_G} {c : Nat → ClassId} {sz : Nat} {ad : gN → Nat} {k : Nat} {I J : gI} {P : gP} {LG : Option Nat} {LP : Option (Nat × Nat)} {x : Int32}  : Met l yM_owner wM_owner { frames := 1, cells := 0, slots := 0, locals := 20 } (gPre D c sz [.ref (ad (11, 0, 0)), .int x] (ad, k, I, J, P, LG, LP)) (va_Qi (fun r u => r = mOwner J x ∧ u = (ad, k, I, J, P, LG, LP)) (gB D c sz) (gA sz)) 0 0 (gA sz) := by
  refine Met.ofW (cc := cM_owner) (maxL := 2) (ret := (some .int)) (by decide) rfl ?_
  intro p e s m args below meth cd s₁ B hml hv
  obtain ⟨rfl, hK, hH⟩ := hv
  have hx := B.exec
  have hb := B.bytes
  have hr := B.returns
  have hts := atoms_spec (ws := wM_owner) B.pre
  have hw : ∀ w ∈ gWd, w.before _ s = true := fun w h => hts w (List.mem_cons_of_mem _ h)
  have hown : s.vm.findClass RM = some m.cls := findClass_of_methodNamed B.named
  have hlk := B.notSynchronized
  have hS : va_S (gA sz) s.heap s.heap [] := va_S.rf
  have hH : gW D c sz ad k I J P LG LP s.heap := hH
  have hl := lv_entry ([.ref (ad (11, 0, 0)), .int x]) (n := 2) (Nat.le_of_ble_eq_true rfl)
  rw [lg_entry_eq]
  generalize (lg_sl ([.ref (ad (11, 0, 0)), .int x]) ++ List.replicate (2 - (lg_sl ([.ref (ad (11, 0, 0)), .int x])).length) Slot.unset).toArray = ls at hl ⊢
  have hl : lv_has ls 2 [(0, .ref (ad (11, 0, 0))), (1, .int x)] := hl
  refine lv_iload_n hx hb dM_owner_0 rfl (lv_at hl 1 rfl) ?_
  refine s_ciE (va_runS (As := [.int _]) (rest := []) ⟨hx, hb, hml, hown, hw⟩ (c_M_isPage l  ) (cwS 1 hw (gd_S (gwd_6 (List.mem_of_getElem? (i := 34) rfl)) (gwd_6 (List.mem_of_getElem? (i := 35) rfl)) (gwd_0 (List.mem_of_getElem? (i := 3) rfl)) (gwd_6 (List.mem_of_getElem? (i := 36) rfl))) rfl rfl rfl (by decide +kernel) ⟨Nat.le_of_ble_eq_true rfl, Nat.le_of_ble_eq_true rfl⟩) (gPre.S hK hH) rfl rfl hl.1 rfl (lv_room (Nat.le_of_ble_eq_true rfl)) dM_owner_1 ⟨Nat.zero_le _, Nat.zero_le _⟩) hS (fun H locs hH hS => ?_)
  refine s_ifeq hx hb dM_owner_4 rfl (fun h_1 => ?_) (fun h_1 => ?_)
  · skip
    refine lv_iconst (v := -1) hx hb dM_owner_16 (by decide) ?_
    exact r_i hx hb hr hlk hK hH hS dM_owner_17 (⟨by first | rw [mOwner, if_neg h_1] | rw [mOwner, if_pos h_1, hi], rfl⟩)
  · skip
    obtain ⟨j, hj, rfl⟩ := isP_ix h_1
    have hi : ix (nI j) = j := ix_nI (by omega)
    refine lv_aload_n hx hb dM_owner_7 rfl (lv_at hl 0 rfl) ?_
    refine s_get hx hb hw inM hown hK hH 1 (by decide) (hw _ (gwd_5 (List.mem_of_getElem? (i := 41) rfl))) (by first | exact ⟨rfl, rfl⟩ | exact ⟨by assumption, rfl⟩ | exact ⟨by assumption, by assumption⟩ | exact ⟨by omega, rfl⟩ | exact ⟨by omega, by omega⟩ | exact ⟨by decide, rfl⟩) rfl rfl rfl rfl dM_owner_8 ?_
    refine lv_iload_n hx hb dM_owner_11 rfl (lv_at hl 1 rfl) ?_
    refine m_iald hx hb hK hH (by first | exact ⟨rfl, rfl⟩ | exact ⟨by assumption, rfl⟩ | exact ⟨by assumption, by assumption⟩ | exact ⟨by omega, rfl⟩ | exact ⟨by omega, by omega⟩ | exact ⟨by decide, rfl⟩) rfl _ (by first | rfl | assumption) (show _ < 24 from by first | assumption | decide | omega) (by decide) dM_owner_12 ?_
    refine lv_goto hx hb dM_owner_13 rfl ?_
    exact r_i hx hb hr hlk hK hH hS dM_owner_17 (⟨by first | rw [mOwner, if_neg h_1] | rw [mOwner, if_pos h_1, hi], rfl⟩)
set_option maxHeartbeats 4000000 in
set_option maxRecDepth 100000 in
theorem c_M_state (l : Launch) {D : va_G} {c : Nat → ClassId} {sz : Nat} {ad : gN → Nat} {k : Nat} {I J : gI} {P : gP} {LG : Option Nat} {LP : Option (Nat × Nat)} {x : Int32}  : Met l yM_state wM_state { frames := 1, cells := 0, slots := 0, locals := 20 } (gPre D c sz [.ref (ad (11, 0, 0)), .int x] (ad, k, I, J, P, LG, LP)) (va_Qi (fun r u => r = mState J x ∧ u = (ad, k, I, J, P, LG, LP)) (gB D c sz) (gA sz)) 0 0 (gA sz) := by
  refine Met.ofW (cc := cM_state) (maxL := 2) (ret := (some .int)) (by decide) rfl ?_
  intro p e s m args below meth cd s₁ B hml hv
  obtain ⟨rfl, hK, hH⟩ := hv
  have hx := B.exec
  have hb := B.bytes
  have hr := B.returns
  have hts := atoms_spec (ws := wM_state) B.pre
  have hw : ∀ w ∈ gWd, w.before _ s = true := fun w h => hts w (List.mem_cons_of_mem _ h)
  have hown : s.vm.findClass RM = some m.cls := findClass_of_methodNamed B.named
  have hlk := B.notSynchronized
  have hS : va_S (gA sz) s.heap s.heap [] := va_S.rf
  have hH : gW D c sz ad k I J P LG LP s.heap := hH
  have hl := lv_entry ([.ref (ad (11, 0, 0)), .int x]) (n := 2) (Nat.le_of_ble_eq_true rfl)
  rw [lg_entry_eq]
  generalize (lg_sl ([.ref (ad (11, 0, 0)), .int x]) ++ List.replicate (2 - (lg_sl ([.ref (ad (11, 0, 0)), .int x])).length) Slot.unset).toArray = ls at hl ⊢
  have hl : lv_has ls 2 [(0, .ref (ad (11, 0, 0))), (1, .int x)] := hl
  refine lv_iload_n hx hb dM_state_0 rfl (lv_at hl 1 rfl) ?_
  refine s_ciE (va_runS (As := [.int _]) (rest := []) ⟨hx, hb, hml, hown, hw⟩ (c_M_isPage l  ) (cwS 1 hw (gd_S (gwd_6 (List.mem_of_getElem? (i := 34) rfl)) (gwd_6 (List.mem_of_getElem? (i := 35) rfl)) (gwd_0 (List.mem_of_getElem? (i := 3) rfl)) (gwd_6 (List.mem_of_getElem? (i := 36) rfl))) rfl rfl rfl (by decide +kernel) ⟨Nat.le_of_ble_eq_true rfl, Nat.le_of_ble_eq_true rfl⟩) (gPre.S hK hH) rfl rfl hl.1 rfl (lv_room (Nat.le_of_ble_eq_true rfl)) dM_state_1 ⟨Nat.zero_le _, Nat.zero_le _⟩) hS (fun H locs hH hS => ?_)
  refine s_ifne hx hb dM_state_4 rfl (fun h_1 => ?_) (fun h_1 => ?_)
  · skip
    obtain ⟨j, hj, rfl⟩ := isP_ix h_1
    have hi : ix (nI j) = j := ix_nI (by omega)
    refine lv_aload_n hx hb dM_state_9 rfl (lv_at hl 0 rfl) ?_
    refine s_get hx hb hw inM hown hK hH 3 (by decide) (hw _ (gwd_5 (List.mem_of_getElem? (i := 43) rfl))) (by first | exact ⟨rfl, rfl⟩ | exact ⟨by assumption, rfl⟩ | exact ⟨by assumption, by assumption⟩ | exact ⟨by omega, rfl⟩ | exact ⟨by omega, by omega⟩ | exact ⟨by decide, rfl⟩) rfl rfl rfl rfl dM_state_10 ?_
    refine lv_iload_n hx hb dM_state_13 rfl (lv_at hl 1 rfl) ?_
    refine m_iald hx hb hK hH (by first | exact ⟨rfl, rfl⟩ | exact ⟨by assumption, rfl⟩ | exact ⟨by assumption, by assumption⟩ | exact ⟨by omega, rfl⟩ | exact ⟨by omega, by omega⟩ | exact ⟨by decide, rfl⟩) rfl _ (by first | rfl | assumption) (show _ < 24 from by first | assumption | decide | omega) (by decide) dM_state_14 ?_
    refine lv_if_gt hx hb dM_state_15 rfl (fun h_2 => ?_) (fun h_2 => ?_)
    · skip
      refine lv_iconst (v := 1) hx hb dM_state_27 (by decide) ?_
      refine lv_goto hx hb dM_state_28 rfl ?_
      refine lv_aload_n hx hb dM_state_32 rfl (lv_at hl 0 rfl) ?_
      refine s_get hx hb hw inM hown hK hH 6 (by decide) (hw _ (gwd_5 (List.mem_of_getElem? (i := 46) rfl))) (by first | exact ⟨rfl, rfl⟩ | exact ⟨by assumption, rfl⟩ | exact ⟨by assumption, by assumption⟩ | exact ⟨by omega, rfl⟩ | exact ⟨by omega, by omega⟩ | exact ⟨by decide, rfl⟩) rfl rfl rfl rfl dM_state_33 ?_
      refine lv_iload_n hx hb dM_state_36 rfl (lv_at hl 1 rfl) ?_
      refine m_zald hx hb hK hH (by first | exact ⟨rfl, rfl⟩ | exact ⟨by assumption, rfl⟩ | exact ⟨by assumption, by assumption⟩ | exact ⟨by omega, rfl⟩ | exact ⟨by omega, by omega⟩ | exact ⟨by decide, rfl⟩) rfl _ (by first | rfl | assumption) (show _ < 24 from by first | assumption | decide | omega) (by decide) dM_state_37 ?_
      refine lv_if_eq hx hb dM_state_38 rfl (fun h_3 => ?_) (fun h_3 => ?_)
      · skip
        refine lv_iconst (v := 0) hx hb dM_state_45 (by decide) ?_
        refine lv_iadd hx hb dM_state_46 ?_
        exact r_i hx hb hr hlk hK hH hS dM_state_47 (⟨by first | (rw [mState, if_neg h_1]; done) | (rw [mState, if_pos h_1, hi]; simp [h_2, h_3]), rfl⟩)
      · skip
        refine lv_iconst (v := 2) hx hb dM_state_41 (by decide) ?_
        refine lv_goto hx hb dM_state_42 rfl ?_
        refine lv_iadd hx hb dM_state_46 ?_
        exact r_i hx hb hr hlk hK hH hS dM_state_47 (⟨by first | (rw [mState, if_neg h_1]; done) | (rw [mState, if_pos h_1, hi]; simp [h_2, h_3]), rfl⟩)
    · skip
      refine lv_aload_n hx hb dM_state_18 rfl (lv_at hl 0 rfl) ?_
      refine s_get hx hb hw inM hown hK hH 5 (by decide) (hw _ (gwd_5 (List.mem_of_getElem? (i := 45) rfl))) (by first | exact ⟨rfl, rfl⟩ | exact ⟨by assumption, rfl⟩ | exact ⟨by assumption, by assumption⟩ | exact ⟨by omega, rfl⟩ | exact ⟨by omega, by omega⟩ | exact ⟨by decide, rfl⟩) rfl rfl rfl rfl dM_state_19 ?_
      refine lv_iload_n hx hb dM_state_22 rfl (lv_at hl 1 rfl) ?_
      refine m_zald hx hb hK hH (by first | exact ⟨rfl, rfl⟩ | exact ⟨by assumption, rfl⟩ | exact ⟨by assumption, by assumption⟩ | exact ⟨by omega, rfl⟩ | exact ⟨by omega, by omega⟩ | exact ⟨by decide, rfl⟩) rfl _ (by first | rfl | assumption) (show _ < 24 from by first | assumption | decide | omega) (by decide) dM_state_23 ?_
      refine lv_if_eq hx hb dM_state_24 rfl (fun h_4 => ?_) (fun h_4 => ?_)
      · skip
        refine lv_iconst (v := 0) hx hb dM_state_31 (by decide) ?_
        refine lv_aload_n hx hb dM_state_32 rfl (lv_at hl 0 rfl) ?_
        refine s_get hx hb hw inM hown hK hH 6 (by decide) (hw _ (gwd_5 (List.mem_of_getElem? (i := 46) rfl))) (by first | exact ⟨rfl, rfl⟩ | exact ⟨by assumption, rfl⟩ | exact ⟨by assumption, by assumption⟩ | exact ⟨by omega, rfl⟩ | exact ⟨by omega, by omega⟩ | exact ⟨by decide, rfl⟩) rfl rfl rfl rfl dM_state_33 ?_
        refine lv_iload_n hx hb dM_state_36 rfl (lv_at hl 1 rfl) ?_
        refine m_zald hx hb hK hH (by first | exact ⟨rfl, rfl⟩ | exact ⟨by assumption, rfl⟩ | exact ⟨by assumption, by assumption⟩ | exact ⟨by omega, rfl⟩ | exact ⟨by omega, by omega⟩ | exact ⟨by decide, rfl⟩) rfl _ (by first | rfl | assumption) (show _ < 24 from by first | assumption | decide | omega) (by decide) dM_state_37 ?_
        refine lv_if_eq hx hb dM_state_38 rfl (fun h_5 => ?_) (fun h_5 => ?_)
        · skip
          refine lv_iconst (v := 0) hx hb dM_state_45 (by decide) ?_
          refine lv_iadd hx hb dM_state_46 ?_
          exact r_i hx hb hr hlk hK hH hS dM_state_47 (⟨by first | (rw [mState, if_neg h_1]; done) | (rw [mState, if_pos h_1, hi]; simp [h_2, h_4, h_5]), rfl⟩)
        · skip
          refine lv_iconst (v := 2) hx hb dM_state_41 (by decide) ?_
          refine lv_goto hx hb dM_state_42 rfl ?_
          refine lv_iadd hx hb dM_state_46 ?_
          exact r_i hx hb hr hlk hK hH hS dM_state_47 (⟨by first | (rw [mState, if_neg h_1]; done) | (rw [mState, if_pos h_1, hi]; simp [h_2, h_4, h_5]), rfl⟩)
      · skip
        refine lv_iconst (v := 1) hx hb dM_state_27 (by decide) ?_
        refine lv_goto hx hb dM_state_28 rfl ?_
        refine lv_aload_n hx hb dM_state_32 rfl (lv_at hl 0 rfl) ?_
        refine s_get hx hb hw inM hown hK hH 6 (by decide) (hw _ (gwd_5 (List.mem_of_getElem? (i := 46) rfl))) (by first | exact ⟨rfl, rfl⟩ | exact ⟨by assumption, rfl⟩ | exact ⟨by assumption, by assumption⟩ | exact ⟨by omega, rfl⟩ | exact ⟨by omega, by omega⟩ | exact ⟨by decide, rfl⟩) rfl rfl rfl rfl dM_state_33 ?_
        refine lv_iload_n hx hb dM_state_36 rfl (lv_at hl 1 rfl) ?_
        refine m_zald hx hb hK hH (by first | exact ⟨rfl, rfl⟩ | exact ⟨by assumption, rfl⟩ | exact ⟨by assumption, by assumption⟩ | exact ⟨by omega, rfl⟩ | exact ⟨by omega, by omega⟩ | exact ⟨by decide, rfl⟩) rfl _ (by first | rfl | assumption) (show _ < 24 from by first | assumption | decide | omega) (by decide) dM_state_37 ?_
        refine lv_if_eq hx hb dM_state_38 rfl (fun h_6 => ?_) (fun h_6 => ?_)
        · skip
          refine lv_iconst (v := 0) hx hb dM_state_45 (by decide) ?_
          refine lv_iadd hx hb dM_state_46 ?_
          exact r_i hx hb hr hlk hK hH hS dM_state_47 (⟨by first | (rw [mState, if_neg h_1]; done) | (rw [mState, if_pos h_1, hi]; simp [h_2, h_4, h_6]), rfl⟩)
        · skip
          refine lv_iconst (v := 2) hx hb dM_state_41 (by decide) ?_
          refine lv_goto hx hb dM_state_42 rfl ?_
          refine lv_iadd hx hb dM_state_46 ?_
          exact r_i hx hb hr hlk hK hH hS dM_state_47 (⟨by first | (rw [mState, if_neg h_1]; done) | (rw [mState, if_pos h_1, hi]; simp [h_2, h_4, h_6]), rfl⟩)
  · skip
    refine lv_iconst (v := -1) hx hb dM_state_7 (by decide) ?_
    exact r_i hx hb hr hlk hK hH hS dM_state_8 (⟨by first | (rw [mState, if_neg h_1]; done) | (rw [mState, if_pos h_1, hi]; simp []), rfl⟩)
set_option maxHeartbeats 4000000 in
set_option maxRecDepth 100000 in
theorem c_M_pool (l : Launch) {D : va_G} {c : Nat → ClassId} {sz : Nat} {ad : gN → Nat} {k : Nat} {I J : gI} {P : gP} {LG : Option Nat} {LP : Option (Nat × Nat)} {a : Int32} (hk : k ≤ 6) (hmd : J (11, 0, 0) 7 = nI k) : Met l yM_pool wM_pool { frames := 3, cells := 0, slots := 0, locals := 71 } (gPre D c sz [.ref (ad (11, 0, 0)), .int a] (ad, k, I, J, P, LG, LP)) (va_Qi (fun r u => r = mPool J a ∧ u = (ad, k, I, J, P, LG, LP)) (gB D c sz) (gA sz)) 0 0 (gA sz) := by
  refine Met.ofW (cc := cM_pool) (maxL := 2) (ret := (some .int)) (by decide) rfl ?_
  intro p e s m args below meth cd s₁ B hml hv
  obtain ⟨rfl, hK, hH⟩ := hv
  have hx := B.exec
  have hb := B.bytes
  have hr := B.returns
  have hts := atoms_spec (ws := wM_pool) B.pre
  have hw : ∀ w ∈ gWd, w.before _ s = true := fun w h => hts w (List.mem_cons_of_mem _ h)
  have hown : s.vm.findClass RM = some m.cls := findClass_of_methodNamed B.named
  have hlk := B.notSynchronized
  have hS : va_S (gA sz) s.heap s.heap [] := va_S.rf
  have hH : gW D c sz ad k I J P LG LP s.heap := hH
  have hl := lv_entry ([.ref (ad (11, 0, 0)), .int a]) (n := 2) (Nat.le_of_ble_eq_true rfl)
  rw [lg_entry_eq]
  generalize (lg_sl ([.ref (ad (11, 0, 0)), .int a]) ++ List.replicate (2 - (lg_sl ([.ref (ad (11, 0, 0)), .int a])).length) Slot.unset).toArray = ls at hl ⊢
  have hl : lv_has ls 2 [(0, .ref (ad (11, 0, 0))), (1, .int a)] := hl
  refine lv_aload_n hx hb dM_pool_0 rfl (lv_at hl 0 rfl) ?_
  refine lv_iload_n hx hb dM_pool_1 rfl (lv_at hl 1 rfl) ?_
  refine s_ciE (va_runV (As := [.int _]) (rest := []) ⟨hx, hb, hml, hown, hw⟩ (c_M_isGuest l  (by assumption) (by assumption)) (cwV 1 hw (gd_V (gwd_7 (List.mem_of_getElem? (i := 21) rfl)) (gwd_7 (List.mem_of_getElem? (i := 22) rfl)) (gwd_9 (List.mem_of_getElem? (i := 28) rfl)) (gwd_0 (List.mem_of_getElem? (i := 3) rfl)) (gwd_7 (List.mem_of_getElem? (i := 23) rfl))) rfl rfl rfl (by decide +kernel) ⟨Nat.le_of_ble_eq_true rfl, Nat.le_of_ble_eq_true rfl⟩) (gPre.V (n := (11, 0, 0)) hK hH (by first | exact ⟨rfl, rfl⟩ | exact ⟨by assumption, rfl⟩ | exact ⟨by assumption, by assumption⟩ | exact ⟨by omega, rfl⟩ | exact ⟨by omega, by omega⟩ | exact ⟨by decide, rfl⟩) rfl rfl) rfl rfl hl.1 rfl (lv_room (Nat.le_of_ble_eq_true rfl)) dM_pool_2 ⟨Nat.zero_le _, Nat.zero_le _⟩) hS (fun H locs hH hS => ?_)
  refine s_ifeq hx hb dM_pool_5 rfl (fun h_1 => ?_) (fun h_1 => ?_)
  · skip
    refine lv_iconst (v := -1) hx hb dM_pool_16 (by decide) ?_
    exact r_i hx hb hr hlk hK hH hS dM_pool_17 (⟨by first | rw [mPool, if_pos h_1] | rw [mPool, if_neg h_1], rfl⟩)
  · skip
    refine lv_aload_n hx hb dM_pool_8 rfl (lv_at hl 0 rfl) ?_
    refine lv_iload_n hx hb dM_pool_9 rfl (lv_at hl 1 rfl) ?_
    refine s_ciE (va_runV (As := [.int _]) (rest := []) ⟨hx, hb, hml, hown, hw⟩ (c_M_rest l  ) (cwV 1 hw (gd_V (gwd_7 (List.mem_of_getElem? (i := 24) rfl)) (gwd_7 (List.mem_of_getElem? (i := 25) rfl)) (gwd_9 (List.mem_of_getElem? (i := 29) rfl)) (gwd_0 (List.mem_of_getElem? (i := 3) rfl)) (gwd_7 (List.mem_of_getElem? (i := 26) rfl))) rfl rfl rfl (by decide +kernel) ⟨Nat.le_of_ble_eq_true rfl, Nat.le_of_ble_eq_true rfl⟩) (gPre.V (n := (11, 0, 0)) hK hH (by first | exact ⟨rfl, rfl⟩ | exact ⟨by assumption, rfl⟩ | exact ⟨by assumption, by assumption⟩ | exact ⟨by omega, rfl⟩ | exact ⟨by omega, by omega⟩ | exact ⟨by decide, rfl⟩) rfl rfl) rfl rfl hl.1 rfl (lv_room (Nat.le_of_ble_eq_true rfl)) dM_pool_10 ⟨Nat.zero_le _, Nat.zero_le _⟩) hS (fun H locs hH hS => ?_)
    refine lv_goto hx hb dM_pool_13 rfl ?_
    exact r_i hx hb hr hlk hK hH hS dM_pool_17 (⟨by first | rw [mPool, if_pos h_1] | rw [mPool, if_neg h_1], rfl⟩)
set_option maxHeartbeats 4000000 in
set_option maxRecDepth 100000 in
theorem c_M_tables (l : Launch) {D : va_G} {c : Nat → ClassId} {sz : Nat} {ad : gN → Nat} {k : Nat} {I J : gI} {P : gP} {LG : Option Nat} {LP : Option (Nat × Nat)} {a : Int32} (hk : k ≤ 6) (hmd : J (11, 0, 0) 7 = nI k) : Met l yM_tables wM_tables { frames := 2, cells := 0, slots := 0, locals := 48 } (gPre D c sz [.ref (ad (11, 0, 0)), .int a] (ad, k, I, J, P, LG, LP)) (va_Qi (fun r u => r = mTab J a ∧ u = (ad, k, I, J, P, LG, LP)) (gB D c sz) (gA sz)) 0 0 (gA sz) := by
  refine Met.ofW (cc := cM_tables) (maxL := 2) (ret := (some .int)) (by decide) rfl ?_
  intro p e s m args below meth cd s₁ B hml hv
  obtain ⟨rfl, hK, hH⟩ := hv
  have hx := B.exec
  have hb := B.bytes
  have hr := B.returns
  have hts := atoms_spec (ws := wM_tables) B.pre
  have hw : ∀ w ∈ gWd, w.before _ s = true := fun w h => hts w (List.mem_cons_of_mem _ h)
  have hown : s.vm.findClass RM = some m.cls := findClass_of_methodNamed B.named
  have hlk := B.notSynchronized
  have hS : va_S (gA sz) s.heap s.heap [] := va_S.rf
  have hH : gW D c sz ad k I J P LG LP s.heap := hH
  have hl := lv_entry ([.ref (ad (11, 0, 0)), .int a]) (n := 2) (Nat.le_of_ble_eq_true rfl)
  rw [lg_entry_eq]
  generalize (lg_sl ([.ref (ad (11, 0, 0)), .int a]) ++ List.replicate (2 - (lg_sl ([.ref (ad (11, 0, 0)), .int a])).length) Slot.unset).toArray = ls at hl ⊢
  have hl : lv_has ls 2 [(0, .ref (ad (11, 0, 0))), (1, .int a)] := hl
  refine lv_aload_n hx hb dM_tables_0 rfl (lv_at hl 0 rfl) ?_
  refine lv_iload_n hx hb dM_tables_1 rfl (lv_at hl 1 rfl) ?_
  refine s_ciE (va_runV (As := [.int _]) (rest := []) ⟨hx, hb, hml, hown, hw⟩ (c_M_isGuest l  (by assumption) (by assumption)) (cwV 1 hw (gd_V (gwd_7 (List.mem_of_getElem? (i := 21) rfl)) (gwd_7 (List.mem_of_getElem? (i := 22) rfl)) (gwd_9 (List.mem_of_getElem? (i := 28) rfl)) (gwd_0 (List.mem_of_getElem? (i := 3) rfl)) (gwd_7 (List.mem_of_getElem? (i := 23) rfl))) rfl rfl rfl (by decide +kernel) ⟨Nat.le_of_ble_eq_true rfl, Nat.le_of_ble_eq_true rfl⟩) (gPre.V (n := (11, 0, 0)) hK hH (by first | exact ⟨rfl, rfl⟩ | exact ⟨by assumption, rfl⟩ | exact ⟨by assumption, by assumption⟩ | exact ⟨by omega, rfl⟩ | exact ⟨by omega, by omega⟩ | exact ⟨by decide, rfl⟩) rfl rfl) rfl rfl hl.1 rfl (lv_room (Nat.le_of_ble_eq_true rfl)) dM_tables_2 ⟨Nat.zero_le _, Nat.zero_le _⟩) hS (fun H locs hH hS => ?_)
  refine s_ifeq hx hb dM_tables_5 rfl (fun h_1 => ?_) (fun h_1 => ?_)
  · skip
    refine lv_iconst (v := -1) hx hb dM_tables_17 (by decide) ?_
    exact r_i hx hb hr hlk hK hH hS dM_tables_18 (⟨by first | rw [mTab, if_pos h_1] | rw [mTab, if_neg h_1], rfl⟩)
  · skip
    refine lv_aload_n hx hb dM_tables_8 rfl (lv_at hl 0 rfl) ?_
    refine lv_iload_n hx hb dM_tables_9 rfl (lv_at hl 1 rfl) ?_
    refine lv_iconst (v := -1) hx hb dM_tables_10 (by decide) ?_
    refine s_ciE (va_runV (As := [.int _, .int _]) (rest := []) ⟨hx, hb, hml, hown, hw⟩ (c_M_count l  ) (cwV 2 hw (gd_V (gwd_7 (List.mem_of_getElem? (i := 27) rfl)) (gwd_7 (List.mem_of_getElem? (i := 28) rfl)) (gwd_9 (List.mem_of_getElem? (i := 30) rfl)) (gwd_0 (List.mem_of_getElem? (i := 3) rfl)) (gwd_7 (List.mem_of_getElem? (i := 29) rfl))) rfl rfl rfl (by decide +kernel) ⟨Nat.le_of_ble_eq_true rfl, Nat.le_of_ble_eq_true rfl⟩) (gPre.V (n := (11, 0, 0)) hK hH (by first | exact ⟨rfl, rfl⟩ | exact ⟨by assumption, rfl⟩ | exact ⟨by assumption, by assumption⟩ | exact ⟨by omega, rfl⟩ | exact ⟨by omega, by omega⟩ | exact ⟨by decide, rfl⟩) rfl rfl) rfl rfl hl.1 rfl (lv_room (Nat.le_of_ble_eq_true rfl)) dM_tables_11 ⟨Nat.zero_le _, Nat.zero_le _⟩) hS (fun H locs hH hS => ?_)
    refine lv_goto hx hb dM_tables_14 rfl ?_
    exact r_i hx hb hr hlk hK hH hS dM_tables_18 (⟨by first | rw [mTab, if_pos h_1] | rw [mTab, if_neg h_1], rfl⟩)
