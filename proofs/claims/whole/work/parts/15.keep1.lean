theorem bz_iff {a b : Prop} [Decidable a] [Decidable b] (h : a ↔ b) : bz a = bz b := by
  by_cases z : a
  · rw [bz_t z, bz_t (h.mp z)]
  · rw [bz_f z, bz_f (fun q => z (h.mpr q))]
theorem sLiv_lt {I : gI} {k g : Nat} {x : Int32} (h : sLiv I k x = some g) : g < k := by
  unfold sLiv at h
  split at h
  · cases h
  · split at h
    · rename_i h2
      cases h
      exact h2.1
    · cases h
theorem liv_ix {x : Int32} (h1 : ¬ x < 1) (h2 : x ≤ 6) : ∃ j, j < 6 ∧ x = nI (j + 1) := by
  have h0 : ¬ x < 0 := fun q => h1 (Int32.lt_of_lt_of_le q (by decide))
  obtain ⟨j, hj, rfl⟩ := ix_le 6 6 rfl (by decide) h0 h2
  have : ¬ j = 0 := fun q => h1 (by rw [q]; decide)
  exact ⟨j - 1, by omega, by rw [show j - 1 + 1 = j by omega]⟩
set_option maxHeartbeats 4000000 in
set_option maxRecDepth 100000 in
theorem c_K_isPage (l : Launch) {D : va_G} {c : Nat → ClassId} {sz : Nat} {ad : gN → Nat} {k : Nat} {I J : gI} {P : gP} {LG : Option Nat} {LP : Option (Nat × Nat)} {x : Int32}  : Met l yK_isPage wK_isPage { frames := 0, cells := 0, slots := 0, locals := 0 } (gPre D c sz [.int x] (ad, k, I, J, P, LG, LP)) (va_Qi (fun r u => r = bz (isP x) ∧ u = (ad, k, I, J, P, LG, LP)) (gB D c sz) (gA sz)) 0 0 (gA sz) := by
  refine Met.ofW (cc := cK_isPage) (maxL := 1) (ret := (some .boolean)) (by decide) rfl ?_
  intro p e s m args below meth cd s₁ B hml hv
  obtain ⟨rfl, hK, hH⟩ := hv
  have hx := B.exec
  have hb := B.bytes
  have hr := B.returns
  have hts := atoms_spec (ws := wK_isPage) B.pre
  have hw : ∀ w ∈ gWd, w.before _ s = true := fun w h => hts w (List.mem_cons_of_mem _ h)
  have hown : s.vm.findClass RK = some m.cls := findClass_of_methodNamed B.named
  have hlk := B.notSynchronized
  have hS : va_S (gA sz) s.heap s.heap [] := va_S.rf
  have hH : gW D c sz ad k I J P LG LP s.heap := hH
  have hl := lv_entry ([.int x]) (n := 1) (Nat.le_of_ble_eq_true rfl)
  rw [lg_entry_eq]
  generalize (lg_sl ([.int x]) ++ List.replicate (1 - (lg_sl ([.int x])).length) Slot.unset).toArray = ls at hl ⊢
  have hl : lv_has ls 1 [(0, .int x)] := hl
  refine lv_iload_n hx hb dK_isPage_0 rfl (lv_at hl 0 rfl) ?_
  refine lv_if_lt hx hb dK_isPage_1 rfl (fun h_1 => ?_) (fun h_1 => ?_)
  · skip
    refine lv_iconst (v := 0) hx hb dK_isPage_14 (by decide) ?_
    exact r_z hx hb hr hlk hK hH hS dK_isPage_15 (by first | exact Or.inl rfl | exact Or.inr rfl | exact bz_01 _ | assumption) (⟨(bz_f (fun q => q.1 h_1)).symm, rfl⟩)
  · skip
    refine lv_iload_n hx hb dK_isPage_4 rfl (lv_at hl 0 rfl) ?_
    refine lv_bipush (v := 24) hx hb dK_isPage_5 (by decide) ?_
    refine lv_icmp_ge hx hb dK_isPage_7 rfl (fun h_2 => ?_) (fun h_2 => ?_)
    · skip
      refine lv_iconst (v := 0) hx hb dK_isPage_14 (by decide) ?_
      exact r_z hx hb hr hlk hK hH hS dK_isPage_15 (by first | exact Or.inl rfl | exact Or.inr rfl | exact bz_01 _ | assumption) (⟨by first | exact (bz_t ⟨h_1, h_2⟩).symm | exact (bz_f (fun q => q.2 h_2)).symm, rfl⟩)
    · skip
      refine lv_iconst (v := 1) hx hb dK_isPage_10 (by decide) ?_
      refine lv_goto hx hb dK_isPage_11 rfl ?_
      exact r_z hx hb hr hlk hK hH hS dK_isPage_15 (by first | exact Or.inl rfl | exact Or.inr rfl | exact bz_01 _ | assumption) (⟨by first | exact (bz_t ⟨h_1, h_2⟩).symm | exact (bz_f (fun q => q.2 h_2)).symm, rfl⟩)
set_option maxHeartbeats 4000000 in
set_option maxRecDepth 100000 in
theorem c_K_isWord (l : Launch) {D : va_G} {c : Nat → ClassId} {sz : Nat} {ad : gN → Nat} {k : Nat} {I J : gI} {P : gP} {LG : Option Nat} {LP : Option (Nat × Nat)} {x : Int32}  : Met l yK_isWord wK_isWord { frames := 0, cells := 0, slots := 0, locals := 0 } (gPre D c sz [.int x] (ad, k, I, J, P, LG, LP)) (va_Qi (fun r u => r = bz (is4 x) ∧ u = (ad, k, I, J, P, LG, LP)) (gB D c sz) (gA sz)) 0 0 (gA sz) := by
  refine Met.ofW (cc := cK_isWord) (maxL := 1) (ret := (some .boolean)) (by decide) rfl ?_
  intro p e s m args below meth cd s₁ B hml hv
  obtain ⟨rfl, hK, hH⟩ := hv
  have hx := B.exec
  have hb := B.bytes
  have hr := B.returns
  have hts := atoms_spec (ws := wK_isWord) B.pre
  have hw : ∀ w ∈ gWd, w.before _ s = true := fun w h => hts w (List.mem_cons_of_mem _ h)
  have hown : s.vm.findClass RK = some m.cls := findClass_of_methodNamed B.named
  have hlk := B.notSynchronized
  have hS : va_S (gA sz) s.heap s.heap [] := va_S.rf
  have hH : gW D c sz ad k I J P LG LP s.heap := hH
  have hl := lv_entry ([.int x]) (n := 1) (Nat.le_of_ble_eq_true rfl)
  rw [lg_entry_eq]
  generalize (lg_sl ([.int x]) ++ List.replicate (1 - (lg_sl ([.int x])).length) Slot.unset).toArray = ls at hl ⊢
  have hl : lv_has ls 1 [(0, .int x)] := hl
  refine lv_iload_n hx hb dK_isWord_0 rfl (lv_at hl 0 rfl) ?_
  refine lv_if_lt hx hb dK_isWord_1 rfl (fun h_1 => ?_) (fun h_1 => ?_)
  · skip
    refine lv_iconst (v := 0) hx hb dK_isWord_13 (by decide) ?_
    exact r_z hx hb hr hlk hK hH hS dK_isWord_14 (by first | exact Or.inl rfl | exact Or.inr rfl | exact bz_01 _ | assumption) (⟨(bz_f (fun q => q.1 h_1)).symm, rfl⟩)
  · skip
    refine lv_iload_n hx hb dK_isWord_4 rfl (lv_at hl 0 rfl) ?_
    refine lv_iconst (v := 4) hx hb dK_isWord_5 (by decide) ?_
    refine lv_icmp_ge hx hb dK_isWord_6 rfl (fun h_2 => ?_) (fun h_2 => ?_)
    · skip
      refine lv_iconst (v := 0) hx hb dK_isWord_13 (by decide) ?_
      exact r_z hx hb hr hlk hK hH hS dK_isWord_14 (by first | exact Or.inl rfl | exact Or.inr rfl | exact bz_01 _ | assumption) (⟨by first | exact (bz_t ⟨h_1, h_2⟩).symm | exact (bz_f (fun q => q.2 h_2)).symm, rfl⟩)
    · skip
      refine lv_iconst (v := 1) hx hb dK_isWord_9 (by decide) ?_
      refine lv_goto hx hb dK_isWord_10 rfl ?_
      exact r_z hx hb hr hlk hK hH hS dK_isWord_14 (by first | exact Or.inl rfl | exact Or.inr rfl | exact bz_01 _ | assumption) (⟨by first | exact (bz_t ⟨h_1, h_2⟩).symm | exact (bz_f (fun q => q.2 h_2)).symm, rfl⟩)
set_option maxHeartbeats 4000000 in
set_option maxRecDepth 100000 in
theorem c_K_isRegister (l : Launch) {D : va_G} {c : Nat → ClassId} {sz : Nat} {ad : gN → Nat} {k : Nat} {I J : gI} {P : gP} {LG : Option Nat} {LP : Option (Nat × Nat)} {x : Int32}  : Met l yK_isRegister wK_isRegister { frames := 0, cells := 0, slots := 0, locals := 0 } (gPre D c sz [.int x] (ad, k, I, J, P, LG, LP)) (va_Qi (fun r u => r = bz (is4 x) ∧ u = (ad, k, I, J, P, LG, LP)) (gB D c sz) (gA sz)) 0 0 (gA sz) := by
  refine Met.ofW (cc := cK_isRegister) (maxL := 1) (ret := (some .boolean)) (by decide) rfl ?_
  intro p e s m args below meth cd s₁ B hml hv
  obtain ⟨rfl, hK, hH⟩ := hv
  have hx := B.exec
  have hb := B.bytes
  have hr := B.returns
  have hts := atoms_spec (ws := wK_isRegister) B.pre
  have hw : ∀ w ∈ gWd, w.before _ s = true := fun w h => hts w (List.mem_cons_of_mem _ h)
  have hown : s.vm.findClass RK = some m.cls := findClass_of_methodNamed B.named
  have hlk := B.notSynchronized
  have hS : va_S (gA sz) s.heap s.heap [] := va_S.rf
  have hH : gW D c sz ad k I J P LG LP s.heap := hH
  have hl := lv_entry ([.int x]) (n := 1) (Nat.le_of_ble_eq_true rfl)
  rw [lg_entry_eq]
  generalize (lg_sl ([.int x]) ++ List.replicate (1 - (lg_sl ([.int x])).length) Slot.unset).toArray = ls at hl ⊢
  have hl : lv_has ls 1 [(0, .int x)] := hl
  refine lv_iload_n hx hb dK_isRegister_0 rfl (lv_at hl 0 rfl) ?_
  refine lv_if_lt hx hb dK_isRegister_1 rfl (fun h_1 => ?_) (fun h_1 => ?_)
  · skip
    refine lv_iconst (v := 0) hx hb dK_isRegister_13 (by decide) ?_
    exact r_z hx hb hr hlk hK hH hS dK_isRegister_14 (by first | exact Or.inl rfl | exact Or.inr rfl | exact bz_01 _ | assumption) (⟨(bz_f (fun q => q.1 h_1)).symm, rfl⟩)
  · skip
    refine lv_iload_n hx hb dK_isRegister_4 rfl (lv_at hl 0 rfl) ?_
    refine lv_iconst (v := 4) hx hb dK_isRegister_5 (by decide) ?_
    refine lv_icmp_ge hx hb dK_isRegister_6 rfl (fun h_2 => ?_) (fun h_2 => ?_)
    · skip
      refine lv_iconst (v := 0) hx hb dK_isRegister_13 (by decide) ?_
      exact r_z hx hb hr hlk hK hH hS dK_isRegister_14 (by first | exact Or.inl rfl | exact Or.inr rfl | exact bz_01 _ | assumption) (⟨by first | exact (bz_t ⟨h_1, h_2⟩).symm | exact (bz_f (fun q => q.2 h_2)).symm, rfl⟩)
    · skip
      refine lv_iconst (v := 1) hx hb dK_isRegister_9 (by decide) ?_
      refine lv_goto hx hb dK_isRegister_10 rfl ?_
      exact r_z hx hb hr hlk hK hH hS dK_isRegister_14 (by first | exact Or.inl rfl | exact Or.inr rfl | exact bz_01 _ | assumption) (⟨by first | exact (bz_t ⟨h_1, h_2⟩).symm | exact (bz_f (fun q => q.2 h_2)).symm, rfl⟩)
set_option maxHeartbeats 4000000 in
set_option maxRecDepth 100000 in
theorem c_K_isFreePage (l : Launch) {D : va_G} {c : Nat → ClassId} {sz : Nat} {ad : gN → Nat} {k : Nat} {I J : gI} {P : gP} {LG : Option Nat} {LP : Option (Nat × Nat)} {x : Int32}  : Met l yK_isFreePage wK_isFreePage { frames := 1, cells := 0, slots := 0, locals := 20 } (gPre D c sz [.ref (ad (0, 0, 0)), .int x] (ad, k, I, J, P, LG, LP)) (va_Qi (fun r u => r = bz (sFree I x) ∧ u = (ad, k, I, J, P, LG, LP)) (gB D c sz) (gA sz)) 0 0 (gA sz) := by
  refine Met.ofW (cc := cK_isFreePage) (maxL := 2) (ret := (some .boolean)) (by decide) rfl ?_
  intro p e s m args below meth cd s₁ B hml hv
  obtain ⟨rfl, hK, hH⟩ := hv
  have hx := B.exec
  have hb := B.bytes
  have hr := B.returns
  have hts := atoms_spec (ws := wK_isFreePage) B.pre
  have hw : ∀ w ∈ gWd, w.before _ s = true := fun w h => hts w (List.mem_cons_of_mem _ h)
  have hown : s.vm.findClass RK = some m.cls := findClass_of_methodNamed B.named
  have hlk := B.notSynchronized
  have hS : va_S (gA sz) s.heap s.heap [] := va_S.rf
  have hH : gW D c sz ad k I J P LG LP s.heap := hH
  have hl := lv_entry ([.ref (ad (0, 0, 0)), .int x]) (n := 2) (Nat.le_of_ble_eq_true rfl)
  rw [lg_entry_eq]
  generalize (lg_sl ([.ref (ad (0, 0, 0)), .int x]) ++ List.replicate (2 - (lg_sl ([.ref (ad (0, 0, 0)), .int x])).length) Slot.unset).toArray = ls at hl ⊢
  have hl : lv_has ls 2 [(0, .ref (ad (0, 0, 0))), (1, .int x)] := hl
  refine lv_iload_n hx hb dK_isFreePage_0 rfl (lv_at hl 1 rfl) ?_
  refine s_ciE (va_runS (As := [.int _]) (rest := []) ⟨hx, hb, hml, hown, hw⟩ (c_K_isPage l  ) (cwS 1 hw (gd_S (gwd_1 (List.mem_of_getElem? (i := 13) rfl)) (gwd_1 (List.mem_of_getElem? (i := 14) rfl)) (gwd_0 (List.mem_of_getElem? (i := 1) rfl)) (gwd_1 (List.mem_of_getElem? (i := 15) rfl))) rfl rfl rfl (by decide +kernel) ⟨Nat.le_of_ble_eq_true rfl, Nat.le_of_ble_eq_true rfl⟩) (gPre.S hK hH) rfl rfl hl.1 rfl (lv_room (Nat.le_of_ble_eq_true rfl)) dK_isFreePage_1 ⟨Nat.zero_le _, Nat.zero_le _⟩) hS (fun H locs hH hS => ?_)
  refine s_ifeq hx hb dK_isFreePage_4 rfl (fun h_1 => ?_) (fun h_1 => ?_)
  · skip
    refine lv_iconst (v := 0) hx hb dK_isFreePage_35 (by decide) ?_
    exact r_z hx hb hr hlk hK hH hS dK_isFreePage_36 (by first | exact Or.inl rfl | exact Or.inr rfl | exact bz_01 _ | assumption) (⟨(bz_f (fun q => h_1 q.1)).symm, rfl⟩)
  · skip
    obtain ⟨j, hj, rfl⟩ := isP_ix h_1
    have hi : ix (nI j) = j := ix_nI (by omega)
    refine lv_aload_n hx hb dK_isFreePage_7 rfl (lv_at hl 0 rfl) ?_
    refine s_get hx hb hw inK hown hK hH 0 (by decide) (hw _ (gwd_0 (List.mem_of_getElem? (i := 41) rfl))) (by first | exact ⟨rfl, rfl⟩ | exact ⟨by assumption, rfl⟩ | exact ⟨by assumption, by assumption⟩ | exact ⟨by omega, rfl⟩ | exact ⟨by omega, by omega⟩ | exact ⟨by decide, rfl⟩) rfl rfl rfl rfl dK_isFreePage_8 ?_
    refine lv_iload_n hx hb dK_isFreePage_11 rfl (lv_at hl 1 rfl) ?_
    refine s_aaP hx hb hK hH _ (by first | rfl | assumption) (by first | assumption | decide | omega) dK_isFreePage_12 ?_
    refine s_get hx hb hw inP hown hK hH 1 (by decide) (hw _ (gwd_0 (List.mem_of_getElem? (i := 24) rfl))) (by first | exact ⟨rfl, rfl⟩ | exact ⟨by assumption, rfl⟩ | exact ⟨by assumption, by assumption⟩ | exact ⟨by omega, rfl⟩ | exact ⟨by omega, by omega⟩ | exact ⟨by decide, rfl⟩) rfl rfl rfl rfl dK_isFreePage_13 ?_
    refine lv_if_ne hx hb dK_isFreePage_16 rfl (fun h_2 => ?_) (fun h_2 => ?_)
    · skip
      refine lv_iconst (v := 0) hx hb dK_isFreePage_35 (by decide) ?_
      exact r_z hx hb hr hlk hK hH hS dK_isFreePage_36 (by first | exact Or.inl rfl | exact Or.inr rfl | exact bz_01 _ | assumption) (⟨(bz_f (fun q => h_2 (by have z := q.2.1; rw [hi] at z; exact z))).symm, rfl⟩)
    · skip
      refine lv_aload_n hx hb dK_isFreePage_19 rfl (lv_at hl 0 rfl) ?_
      refine s_get hx hb hw inK hown hK hH 0 (by decide) (hw _ (gwd_0 (List.mem_of_getElem? (i := 41) rfl))) (by first | exact ⟨rfl, rfl⟩ | exact ⟨by assumption, rfl⟩ | exact ⟨by assumption, by assumption⟩ | exact ⟨by omega, rfl⟩ | exact ⟨by omega, by omega⟩ | exact ⟨by decide, rfl⟩) rfl rfl rfl rfl dK_isFreePage_20 ?_
      refine lv_iload_n hx hb dK_isFreePage_23 rfl (lv_at hl 1 rfl) ?_
      refine s_aaP hx hb hK hH _ (by first | rfl | assumption) (by first | assumption | decide | omega) dK_isFreePage_24 ?_
      refine s_get hx hb hw inP hown hK hH 2 (by decide) (hw _ (gwd_0 (List.mem_of_getElem? (i := 26) rfl))) (by first | exact ⟨rfl, rfl⟩ | exact ⟨by assumption, rfl⟩ | exact ⟨by assumption, by assumption⟩ | exact ⟨by omega, rfl⟩ | exact ⟨by omega, by omega⟩ | exact ⟨by decide, rfl⟩) rfl rfl rfl rfl dK_isFreePage_25 ?_
      refine lv_if_ne hx hb dK_isFreePage_28 rfl (fun h_3 => ?_) (fun h_3 => ?_)
      · skip
        refine lv_iconst (v := 0) hx hb dK_isFreePage_35 (by decide) ?_
        exact r_z hx hb hr hlk hK hH hS dK_isFreePage_36 (by first | exact Or.inl rfl | exact Or.inr rfl | exact bz_01 _ | assumption) (⟨by first | exact (bz_t ⟨h_1, by rw [hi]; exact h_2, by rw [hi]; exact h_3⟩).symm | exact (bz_f (fun q => h_3 (by have z := q.2.2; rw [hi] at z; exact z))).symm, rfl⟩)
      · skip
        refine lv_iconst (v := 1) hx hb dK_isFreePage_31 (by decide) ?_
        refine lv_goto hx hb dK_isFreePage_32 rfl ?_
        exact r_z hx hb hr hlk hK hH hS dK_isFreePage_36 (by first | exact Or.inl rfl | exact Or.inr rfl | exact bz_01 _ | assumption) (⟨by first | exact (bz_t ⟨h_1, by rw [hi]; exact h_2, by rw [hi]; exact h_3⟩).symm | exact (bz_f (fun q => h_3 (by have z := q.2.2; rw [hi] at z; exact z))).symm, rfl⟩)
set_option maxHeartbeats 4000000 in
set_option maxRecDepth 100000 in
theorem c_K_livingGuest (l : Launch) {D : va_G} {c : Nat → ClassId} {sz : Nat} {ad : gN → Nat} {k : Nat} {I J : gI} {P : gP} {LG : Option Nat} {LP : Option (Nat × Nat)} {x : Int32}  : Met l yK_livingGuest wK_livingGuest { frames := 0, cells := 0, slots := 0, locals := 0 } (gPre D c sz [.ref (ad (0, 0, 0)), .int x] (ad, k, I, J, P, LG, LP)) (va_Qq (fun r u => r = (sLiv I k x).map (fun g => ad (6, g, 0)) ∧ u = (ad, k, I, J, P, LG, LP)) (gB D c sz) (gA sz)) 0 0 (gA sz) := by
  refine Met.ofW (cc := cK_livingGuest) (maxL := 3) (ret := (some (.object "GuestKeeper$Guest"))) (by decide) rfl ?_
  intro p e s m args below meth cd s₁ B hml hv
  obtain ⟨rfl, hK, hH⟩ := hv
  have hx := B.exec
  have hb := B.bytes
  have hr := B.returns
  have hts := atoms_spec (ws := wK_livingGuest) B.pre
  have hw : ∀ w ∈ gWd, w.before _ s = true := fun w h => hts w (List.mem_cons_of_mem _ h)
  have hown : s.vm.findClass RK = some m.cls := findClass_of_methodNamed B.named
  have hlk := B.notSynchronized
  have hS : va_S (gA sz) s.heap s.heap [] := va_S.rf
  have hH : gW D c sz ad k I J P LG LP s.heap := hH
  have hl := lv_entry ([.ref (ad (0, 0, 0)), .int x]) (n := 3) (Nat.le_of_ble_eq_true rfl)
  rw [lg_entry_eq]
  generalize (lg_sl ([.ref (ad (0, 0, 0)), .int x]) ++ List.replicate (3 - (lg_sl ([.ref (ad (0, 0, 0)), .int x])).length) Slot.unset).toArray = ls at hl ⊢
  have hl : lv_has ls 3 [(0, .ref (ad (0, 0, 0))), (1, .int x)] := hl
  refine lv_iload_n hx hb dK_livingGuest_0 rfl (lv_at hl 1 rfl) ?_
  refine lv_iconst (v := 1) hx hb dK_livingGuest_1 (by decide) ?_
  refine lv_icmp_lt hx hb dK_livingGuest_2 rfl (fun h_1 => ?_) (fun h_1 => ?_)
  · skip
    refine lv_null hx hb dK_livingGuest_19 ?_
    exact r_q none hx hb hr (Or.inl ⟨_, rfl⟩) hlk hK hH hS dK_livingGuest_20 (⟨by simp [sLiv, h_1], rfl⟩)
  · skip
    refine lv_iload_n hx hb dK_livingGuest_5 rfl (lv_at hl 1 rfl) ?_
    refine lv_aload_n hx hb dK_livingGuest_6 rfl (lv_at hl 0 rfl) ?_
    refine s_get hx hb hw inK hown hK hH 3 (by decide) (hw _ (gwd_0 (List.mem_of_getElem? (i := 44) rfl))) (by first | exact ⟨rfl, rfl⟩ | exact ⟨by assumption, rfl⟩ | exact ⟨by assumption, by assumption⟩ | exact ⟨by omega, rfl⟩ | exact ⟨by omega, by omega⟩ | exact ⟨by decide, rfl⟩) rfl rfl rfl rfl dK_livingGuest_7 ?_
    refine lv_icmp_gt hx hb dK_livingGuest_10 rfl (fun h_2 => ?_) (fun h_2 => ?_)
    · skip
      refine lv_null hx hb dK_livingGuest_19 ?_
      exact r_q none hx hb hr (Or.inl ⟨_, rfl⟩) hlk hK hH hS dK_livingGuest_20 (⟨by simp [sLiv, h_2], rfl⟩)
    · skip
      refine lv_iload_n hx hb dK_livingGuest_13 rfl (lv_at hl 1 rfl) ?_
      refine lv_bipush (v := 6) hx hb dK_livingGuest_14 (by decide) ?_
      refine lv_icmp_le hx hb dK_livingGuest_16 rfl (fun h_3 => ?_) (fun h_3 => ?_)
      · skip
        obtain ⟨j, hj, rfl⟩ := liv_ix h_1 h_3
        have hix : ix (nI (j + 1) - 1) = j := by rw [nI_pred]; exact ix_nI (by omega)
        have h6 : ¬ 6 < nI (j + 1) := fun q => Int32.lt_irrefl (Int32.lt_of_lt_of_le q h_3)
        refine lv_aload_n hx hb dK_livingGuest_21 rfl (lv_at hl 0 rfl) ?_
        refine s_get hx hb hw inK hown hK hH 1 (by decide) (hw _ (gwd_0 (List.mem_of_getElem? (i := 42) rfl))) (by first | exact ⟨rfl, rfl⟩ | exact ⟨by assumption, rfl⟩ | exact ⟨by assumption, by assumption⟩ | exact ⟨by omega, rfl⟩ | exact ⟨by omega, by omega⟩ | exact ⟨by decide, rfl⟩) rfl rfl rfl rfl dK_livingGuest_22 ?_
        refine lv_iload_n hx hb dK_livingGuest_25 rfl (lv_at hl 1 rfl) ?_
        refine lv_iconst (v := 1) hx hb dK_livingGuest_26 (by decide) ?_
        refine lv_isub hx hb dK_livingGuest_27 ?_
        rw [nI_pred]
        refine s_aaG hx hb hK hH _ (by first | rfl | assumption) hj dK_livingGuest_28 (fun h_4 => ?_) (fun h_4 => ?_)
        · skip
          refine lv_astore_n hx hb dK_livingGuest_29 rfl hl (by decide) rfl (fun ls hl => ?_)
          have hl : lv_has ls 3 [(2, .ref _), (0, .ref _), (1, .int _)] := hl
          refine lv_aload_n hx hb dK_livingGuest_30 rfl (lv_at hl 0 rfl) ?_
          refine lv_ifnull hx hb dK_livingGuest_31 ?_
          refine lv_aload_n hx hb dK_livingGuest_34 rfl (lv_at hl 0 rfl) ?_
          refine s_get hx hb hw inG hown hK hH 3 (by decide) (hw _ (gwd_2 (List.mem_of_getElem? (i := 20) rfl))) (by first | exact ⟨rfl, rfl⟩ | exact ⟨by assumption, rfl⟩ | exact ⟨by assumption, by assumption⟩ | exact ⟨by omega, rfl⟩ | exact ⟨by omega, by omega⟩ | exact ⟨by decide, rfl⟩) rfl rfl rfl rfl dK_livingGuest_35 ?_
          refine lv_if_eq hx hb dK_livingGuest_38 rfl (fun h_5 => ?_) (fun h_5 => ?_)
          · skip
            refine lv_null hx hb dK_livingGuest_45 ?_
            exact r_q none hx hb hr (Or.inl ⟨_, rfl⟩) hlk hK hH hS dK_livingGuest_46 (⟨by first | (simp [sLiv, hix, h6, h_1, h_2, h_3, h_4, h_5]; done) | (unfold sLiv; rw [if_pos (Or.inr (Or.inr (Int32.not_le.mp h_3)))]; rfl), rfl⟩)
          · skip
            refine lv_aload_n hx hb dK_livingGuest_41 rfl (lv_at hl 0 rfl) ?_
            refine lv_goto hx hb dK_livingGuest_42 rfl ?_
            exact r_q (some _) hx hb hr (Or.inl ⟨_, rfl⟩) hlk hK hH hS dK_livingGuest_46 (⟨by first | (simp [sLiv, hix, h6, h_1, h_2, h_3, h_4, h_5]; done) | (unfold sLiv; rw [if_pos (Or.inr (Or.inr (Int32.not_le.mp h_3)))]; rfl), rfl⟩)
        · skip
          refine lv_astore_nN hx hb dK_livingGuest_29 rfl hl (by decide) rfl (fun ls hl => ?_)
          have hl : lv_has ls 3 [(2, .null), (0, .ref _), (1, .int _)] := hl
          refine lv_aload_nN hx hb dK_livingGuest_30 rfl (lv_at hl 0 rfl) ?_
          refine lv_ifnullN hx hb dK_livingGuest_31 rfl ?_
          refine lv_null hx hb dK_livingGuest_45 ?_
          exact r_q none hx hb hr (Or.inl ⟨_, rfl⟩) hlk hK hH hS dK_livingGuest_46 (⟨by first | (simp [sLiv, hix, h6, h_1, h_2, h_3, h_4]; done) | (unfold sLiv; rw [if_pos (Or.inr (Or.inr (Int32.not_le.mp h_3)))]; rfl), rfl⟩)
      · skip
        refine lv_null hx hb dK_livingGuest_19 ?_
        exact r_q none hx hb hr (Or.inl ⟨_, rfl⟩) hlk hK hH hS dK_livingGuest_20 (⟨by first | (simp [sLiv, hix, h6, h_1, h_2, h_3]; done) | (unfold sLiv; rw [if_pos (Or.inr (Or.inr (Int32.not_le.mp h_3)))]; rfl), rfl⟩)
set_option maxHeartbeats 4000000 in
set_option maxRecDepth 100000 in
theorem c_K_hostReaches (l : Launch) {D : va_G} {c : Nat → ClassId} {sz : Nat} {ad : gN → Nat} {k : Nat} {I J : gI} {P : gP} {LG : Option Nat} {LP : Option (Nat × Nat)} {q : Nat} (hq : q < 24) : Met l yK_hostReaches wK_hostReaches { frames := 1, cells := 0, slots := 0, locals := 20 } (gPre D c sz [.ref (ad (0, 0, 0)), .ref (ad (2, q, 0))] (ad, k, I, J, P, LG, LP)) (va_Qi (fun r u => r = bz (sRchB I q) ∧ u = (ad, k, sRch I q, J, P, LG, LP)) (gB D c sz) (gA sz)) 0 0 (gA sz) := by
  refine Met.ofW (cc := cK_hostReaches) (maxL := 2) (ret := (some .boolean)) (by decide) rfl ?_
  intro p e s m args below meth cd s₁ B hml hv
  obtain ⟨rfl, hK, hH⟩ := hv
  have hx := B.exec
  have hb := B.bytes
  have hr := B.returns
  have hts := atoms_spec (ws := wK_hostReaches) B.pre
  have hw : ∀ w ∈ gWd, w.before _ s = true := fun w h => hts w (List.mem_cons_of_mem _ h)
  have hown : s.vm.findClass RK = some m.cls := findClass_of_methodNamed B.named
  have hlk := B.notSynchronized
  have hS : va_S (gA sz) s.heap s.heap [] := va_S.rf
  have hH : gW D c sz ad k I J P LG LP s.heap := hH
  have hl := lv_entry ([.ref (ad (0, 0, 0)), .ref (ad (2, q, 0))]) (n := 2) (Nat.le_of_ble_eq_true rfl)
  rw [lg_entry_eq]
  generalize (lg_sl ([.ref (ad (0, 0, 0)), .ref (ad (2, q, 0))]) ++ List.replicate (2 - (lg_sl ([.ref (ad (0, 0, 0)), .ref (ad (2, q, 0))])).length) Slot.unset).toArray = ls at hl ⊢
  have hl : lv_has ls 2 [(0, .ref (ad (0, 0, 0))), (1, .ref (ad (2, q, 0)))] := hl
  refine lv_aload_n hx hb dK_hostReaches_0 rfl (lv_at hl 1 rfl) ?_
  refine s_get hx hb hw inP hown hK hH 5 (by decide) (hw _ (gwd_0 (List.mem_of_getElem? (i := 32) rfl))) (by first | exact ⟨rfl, rfl⟩ | exact ⟨by assumption, rfl⟩ | exact ⟨by assumption, by assumption⟩ | exact ⟨by omega, rfl⟩ | exact ⟨by omega, by omega⟩ | exact ⟨by decide, rfl⟩) rfl rfl rfl rfl dK_hostReaches_1 ?_
  refine lv_if_eq hx hb dK_hostReaches_4 rfl (fun h_1 => ?_) (fun h_1 => ?_)
  · skip
    refine lv_aload_n hx hb dK_hostReaches_9 rfl (lv_at hl 0 rfl) ?_
    refine lv_dup hx hb dK_hostReaches_10 rfl ?_
    refine s_get hx hb hw inK hown hK hH 4 (by decide) (hw _ (gwd_0 (List.mem_of_getElem? (i := 45) rfl))) (by first | exact ⟨rfl, rfl⟩ | exact ⟨by assumption, rfl⟩ | exact ⟨by assumption, by assumption⟩ | exact ⟨by omega, rfl⟩ | exact ⟨by omega, by omega⟩ | exact ⟨by decide, rfl⟩) rfl rfl rfl rfl dK_hostReaches_11 ?_
    refine lv_iconst (v := 1) hx hb dK_hostReaches_14 (by decide) ?_
    refine lv_iadd hx hb dK_hostReaches_15 ?_
    refine s_put hx hb hw inK tyK_ok nK hown hK hH hS 4 (by decide) (hw _ (gwd_0 (List.mem_of_getElem? (i := 45) rfl))) (by first | exact ⟨rfl, rfl⟩ | exact ⟨by assumption, rfl⟩ | exact ⟨by assumption, by assumption⟩ | exact ⟨by omega, rfl⟩ | exact ⟨by omega, by omega⟩ | exact ⟨by decide, rfl⟩) rfl rfl rfl rfl rfl rfl rfl (Nat.le_of_ble_eq_true rfl) rfl dK_hostReaches_16 (fun H locs hH hS => ?_)
    refine lv_aload_n hx hb dK_hostReaches_19 rfl (lv_at hl 1 rfl) ?_
    refine lv_aload_n hx hb dK_hostReaches_20 rfl (lv_at hl 1 rfl) ?_
    refine s_ciE (va_runV (As := []) (rest := [.ref _]) ⟨hx, hb, hml, hown, hw⟩ (c_P_isOpenToHost l  (by first | assumption | omega | decide)) (cwV 0 hw (gd_V (gwd_1 (List.mem_of_getElem? (i := 22) rfl)) (gwd_1 (List.mem_of_getElem? (i := 23) rfl)) (gwd_1 (List.mem_of_getElem? (i := 24) rfl)) (gwd_0 (List.mem_of_getElem? (i := 2) rfl)) (gwd_1 (List.mem_of_getElem? (i := 25) rfl))) rfl rfl rfl (by decide +kernel) ⟨Nat.le_of_ble_eq_true rfl, Nat.le_of_ble_eq_true rfl⟩) (gPre.V (n := (2, _, 0)) hK hH (by first | exact ⟨rfl, rfl⟩ | exact ⟨by assumption, rfl⟩ | exact ⟨by assumption, by assumption⟩ | exact ⟨by omega, rfl⟩ | exact ⟨by omega, by omega⟩ | exact ⟨by decide, rfl⟩) rfl rfl) rfl rfl hl.1 rfl (lv_room (Nat.le_of_ble_eq_true rfl)) dK_hostReaches_21 ⟨Nat.zero_le _, Nat.zero_le _⟩) hS (fun H locs hH hS => ?_)
    refine s_put hx hb hw inP tyP_ok nP hown hK hH hS 5 (by decide) (hw _ (gwd_0 (List.mem_of_getElem? (i := 32) rfl))) (by first | exact ⟨rfl, rfl⟩ | exact ⟨by assumption, rfl⟩ | exact ⟨by assumption, by assumption⟩ | exact ⟨by omega, rfl⟩ | exact ⟨by omega, by omega⟩ | exact ⟨by decide, rfl⟩) rfl rfl rfl rfl rfl (nar01 (by first | exact Or.inl rfl | exact Or.inr rfl | exact bz_01 _ | assumption)) (fit01 (by first | exact Or.inl rfl | exact Or.inr rfl | exact bz_01 _ | assumption)) (Nat.le_of_ble_eq_true rfl) rfl dK_hostReaches_24 (fun H locs hH hS => ?_)
    refine lv_aload_n hx hb dK_hostReaches_27 rfl (lv_at hl 1 rfl) ?_
    refine s_get hx hb hw inP hown hK hH 5 (by decide) (hw _ (gwd_0 (List.mem_of_getElem? (i := 32) rfl))) (by first | exact ⟨rfl, rfl⟩ | exact ⟨by assumption, rfl⟩ | exact ⟨by assumption, by assumption⟩ | exact ⟨by omega, rfl⟩ | exact ⟨by omega, by omega⟩ | exact ⟨by decide, rfl⟩) rfl rfl rfl rfl dK_hostReaches_28 ?_
    simp only [iu_at, and_self, if_true]
    exact r_z hx hb hr hlk hK hH hS dK_hostReaches_31 (by first | exact Or.inl rfl | exact Or.inr rfl | exact bz_01 _ | assumption) (⟨bz_iff ⟨fun z => Or.inr z, fun z => z.elim (fun z => absurd h_1 z) id⟩, by simp [sRch, h_1]⟩)
  · skip
    refine lv_iconst (v := 1) hx hb dK_hostReaches_7 (by decide) ?_
    exact r_z hx hb hr hlk hK hH hS dK_hostReaches_8 (by first | exact Or.inl rfl | exact Or.inr rfl | exact bz_01 _ | assumption) (⟨(bz_t (Or.inl h_1)).symm, by simp [sRch, h_1]⟩)
set_option maxHeartbeats 4000000 in
set_option maxRecDepth 100000 in
theorem c_K_placingRefusal0 (l : Launch) {D : va_G} {c : Nat → ClassId} {sz : Nat} {ad : gN → Nat} {k : Nat} {I J : gI} {P : gP} {LG : Option Nat} {LP : Option (Nat × Nat)} {x y : Int32}  : Met l yK_placingRefusal wK_placingRefusal { frames := 4, cells := 0, slots := 0, locals := 86 } (gPre D c sz [.ref (ad (0, 0, 0)), .null, .int x, .int y] (ad, k, I, J, P, LG, LP)) (va_Qi (fun r u => r = -1 ∧ u = (ad, k, I, J, P, LG, LP)) (gB D c sz) (gA sz)) 0 0 (gA sz) := by
  refine Met.ofW (cc := cK_placingRefusal) (maxL := 4) (ret := (some .int)) (by decide) rfl ?_
  intro p e s m args below meth cd s₁ B hml hv
  obtain ⟨rfl, hK, hH⟩ := hv
  have hx := B.exec
  have hb := B.bytes
  have hr := B.returns
  have hts := atoms_spec (ws := wK_placingRefusal) B.pre
  have hw : ∀ w ∈ gWd, w.before _ s = true := fun w h => hts w (List.mem_cons_of_mem _ h)
  have hown : s.vm.findClass RK = some m.cls := findClass_of_methodNamed B.named
  have hlk := B.notSynchronized
  have hS : va_S (gA sz) s.heap s.heap [] := va_S.rf
  have hH : gW D c sz ad k I J P LG LP s.heap := hH
  have hl := lv_entry ([.ref (ad (0, 0, 0)), .null, .int x, .int y]) (n := 4) (Nat.le_of_ble_eq_true rfl)
  rw [lg_entry_eq]
  generalize (lg_sl ([.ref (ad (0, 0, 0)), .null, .int x, .int y]) ++ List.replicate (4 - (lg_sl ([.ref (ad (0, 0, 0)), .null, .int x, .int y])).length) Slot.unset).toArray = ls at hl ⊢
  have hl : lv_has ls 4 [(0, .ref (ad (0, 0, 0))), (1, .null), (2, .int x), (3, .int y)] := hl
  refine lv_aload_nN hx hb dK_placingRefusal_0 rfl (lv_at hl 1 rfl) ?_
  refine lv_ifnonnullN hx hb dK_placingRefusal_1 ?_
  refine lv_iconst (v := -1) hx hb dK_placingRefusal_4 (by decide) ?_
  exact r_i hx hb hr hlk hK hH hS dK_placingRefusal_5 (⟨rfl, rfl⟩)
set_option maxHeartbeats 4000000 in
set_option maxRecDepth 100000 in
theorem c_K_placingRefusal (l : Launch) {D : va_G} {c : Nat → ClassId} {sz : Nat} {ad : gN → Nat} {k : Nat} {I J : gI} {P : gP} {LG : Option Nat} {LP : Option (Nat × Nat)} {g : Nat} {x y : Int32} (hg : g < k) (hPl : ∀ g a q, P g a = some q → q < 24) : Met l yK_placingRefusal wK_placingRefusal { frames := 4, cells := 0, slots := 0, locals := 86 } (gPre D c sz [.ref (ad (0, 0, 0)), .ref (ad (6, g, 0)), .int x, .int y] (ad, k, I, J, P, LG, LP)) (va_Qi (fun r u => r = sRef I P g x y ∧ u = (ad, k, I, J, P, LG, LP)) (gB D c sz) (gA sz)) 0 0 (gA sz) := by
  refine Met.ofW (cc := cK_placingRefusal) (maxL := 4) (ret := (some .int)) (by decide) rfl ?_
  intro p e s m args below meth cd s₁ B hml hv
  obtain ⟨rfl, hK, hH⟩ := hv
  have hx := B.exec
  have hb := B.bytes
  have hr := B.returns
  have hts := atoms_spec (ws := wK_placingRefusal) B.pre
  have hw : ∀ w ∈ gWd, w.before _ s = true := fun w h => hts w (List.mem_cons_of_mem _ h)
  have hown : s.vm.findClass RK = some m.cls := findClass_of_methodNamed B.named
  have hlk := B.notSynchronized
  have hS : va_S (gA sz) s.heap s.heap [] := va_S.rf
  have hH : gW D c sz ad k I J P LG LP s.heap := hH
  have hl := lv_entry ([.ref (ad (0, 0, 0)), .ref (ad (6, g, 0)), .int x, .int y]) (n := 4) (Nat.le_of_ble_eq_true rfl)
  rw [lg_entry_eq]
  generalize (lg_sl ([.ref (ad (0, 0, 0)), .ref (ad (6, g, 0)), .int x, .int y]) ++ List.replicate (4 - (lg_sl ([.ref (ad (0, 0, 0)), .ref (ad (6, g, 0)), .int x, .int y])).length) Slot.unset).toArray = ls at hl ⊢
  have hl : lv_has ls 4 [(0, .ref (ad (0, 0, 0))), (1, .ref (ad (6, g, 0))), (2, .int x), (3, .int y)] := hl
  refine lv_aload_n hx hb dK_placingRefusal_0 rfl (lv_at hl 1 rfl) ?_
  refine lv_ifnonnull hx hb dK_placingRefusal_1 rfl ?_
  refine lv_aload_n hx hb dK_placingRefusal_6 rfl (lv_at hl 0 rfl) ?_
  refine lv_iload_n hx hb dK_placingRefusal_7 rfl (lv_at hl 2 rfl) ?_
  refine s_ciE (va_runV (As := [.int _]) (rest := []) ⟨hx, hb, hml, hown, hw⟩ (c_K_isFreePage l  ) (cwV 1 hw (gd_V (gwd_1 (List.mem_of_getElem? (i := 39) rfl)) (gwd_1 (List.mem_of_getElem? (i := 40) rfl)) (gwd_9 (List.mem_of_getElem? (i := 13) rfl)) (gwd_0 (List.mem_of_getElem? (i := 1) rfl)) (gwd_1 (List.mem_of_getElem? (i := 41) rfl))) rfl rfl rfl (by decide +kernel) ⟨Nat.le_of_ble_eq_true rfl, Nat.le_of_ble_eq_true rfl⟩) (gPre.V (n := (0, 0, 0)) hK hH (by first | exact ⟨rfl, rfl⟩ | exact ⟨by assumption, rfl⟩ | exact ⟨by assumption, by assumption⟩ | exact ⟨by omega, rfl⟩ | exact ⟨by omega, by omega⟩ | exact ⟨by decide, rfl⟩) rfl rfl) rfl rfl hl.1 rfl (lv_room (Nat.le_of_ble_eq_true rfl)) dK_placingRefusal_8 ⟨Nat.zero_le _, Nat.zero_le _⟩) hS (fun H locs hH hS => ?_)
  refine s_ifne hx hb dK_placingRefusal_11 rfl (fun h_1 => ?_) (fun h_1 => ?_)
  · skip
    refine lv_iload_n hx hb dK_placingRefusal_17 rfl (lv_at hl 3 rfl) ?_
    refine lv_if_lt hx hb dK_placingRefusal_18 rfl (fun h_2 => ?_) (fun h_2 => ?_)
    · skip
      refine lv_bipush (v := -3) hx hb dK_placingRefusal_36 (by decide) ?_
      exact r_i hx hb hr hlk hK hH hS dK_placingRefusal_38 (⟨by first | rw [sRef, if_neg (fun q => q h_1), if_pos (Or.inl h_2)] | rw [sRef, if_neg (fun q => q h_1), if_pos (Or.inr (Or.inl h_2))] | rw [sRef, if_neg (fun q => q h_1), if_pos (Or.inr (Or.inr (fun q => by rw [hia, h_2] at q; cases q)))], rfl⟩)
    · skip
      refine lv_iload_n hx hb dK_placingRefusal_21 rfl (lv_at hl 3 rfl) ?_
      refine lv_bipush (v := 64) hx hb dK_placingRefusal_22 (by decide) ?_
      refine lv_icmp_ge hx hb dK_placingRefusal_24 rfl (fun h_3 => ?_) (fun h_3 => ?_)
      · skip
        refine lv_bipush (v := -3) hx hb dK_placingRefusal_36 (by decide) ?_
        exact r_i hx hb hr hlk hK hH hS dK_placingRefusal_38 (⟨by first | rw [sRef, if_neg (fun q => q h_1), if_pos (Or.inl h_3)] | rw [sRef, if_neg (fun q => q h_1), if_pos (Or.inr (Or.inl h_3))] | rw [sRef, if_neg (fun q => q h_1), if_pos (Or.inr (Or.inr (fun q => by rw [hia, h_3] at q; cases q)))], rfl⟩)
      · skip
        obtain ⟨a, ha, rfl⟩ := ix_lt 64 64 rfl (by decide) h_2 h_3
        have hia : ix (nI a) = a := ix_nI (by omega)
        refine lv_aload_n hx hb dK_placingRefusal_27 rfl (lv_at hl 1 rfl) ?_
        refine s_get hx hb hw inG hown hK hH 1 (by decide) (hw _ (gwd_2 (List.mem_of_getElem? (i := 16) rfl))) (by first | exact ⟨rfl, rfl⟩ | exact ⟨by assumption, rfl⟩ | exact ⟨by assumption, by assumption⟩ | exact ⟨by omega, rfl⟩ | exact ⟨by omega, by omega⟩ | exact ⟨by decide, rfl⟩) rfl rfl rfl rfl dK_placingRefusal_28 ?_
        refine lv_iload_n hx hb dK_placingRefusal_31 rfl (lv_at hl 3 rfl) ?_
        refine s_aaL hx hb hK hH (by first | assumption | decide | omega) _ (by first | rfl | assumption) (by first | assumption | decide | omega) dK_placingRefusal_32 (fun q_5 h_4 => ?_) (fun h_4 => ?_)
        · have hlt_q_5 : q_5 < 24 := hPl _ _ _ h_4
          refine lv_ifnull hx hb dK_placingRefusal_33 ?_
          refine lv_bipush (v := -3) hx hb dK_placingRefusal_36 (by decide) ?_
          exact r_i hx hb hr hlk hK hH hS dK_placingRefusal_38 (⟨by first | rw [sRef, if_neg (fun q => q h_1), if_pos (Or.inl h_4)] | rw [sRef, if_neg (fun q => q h_1), if_pos (Or.inr (Or.inl h_4))] | rw [sRef, if_neg (fun q => q h_1), if_pos (Or.inr (Or.inr (fun q => by rw [hia, h_4] at q; cases q)))], rfl⟩)
        · skip
          refine lv_ifnullN hx hb dK_placingRefusal_33 rfl ?_
          refine lv_aload_n hx hb dK_placingRefusal_39 rfl (lv_at hl 1 rfl) ?_
          refine s_ciE (va_runV (As := []) (rest := []) ⟨hx, hb, hml, hown, hw⟩ (c_G_poolSize l  (by assumption) (hPl)) (cwV 0 hw (gd_V (gwd_3 (List.mem_of_getElem? (i := 6) rfl)) (gwd_3 (List.mem_of_getElem? (i := 7) rfl)) (gwd_3 (List.mem_of_getElem? (i := 8) rfl)) (gwd_0 (List.mem_of_getElem? (i := 4) rfl)) (gwd_3 (List.mem_of_getElem? (i := 9) rfl))) rfl rfl rfl (by decide +kernel) ⟨Nat.le_of_ble_eq_true rfl, Nat.le_of_ble_eq_true rfl⟩) (gPre.V (n := (6, _, 0)) hK hH (by first | exact ⟨rfl, rfl⟩ | exact ⟨by assumption, rfl⟩ | exact ⟨by assumption, by assumption⟩ | exact ⟨by omega, rfl⟩ | exact ⟨by omega, by omega⟩ | exact ⟨by decide, rfl⟩) rfl rfl) rfl rfl hl.1 rfl (lv_room (Nat.le_of_ble_eq_true rfl)) dK_placingRefusal_40 ⟨Nat.zero_le _, Nat.zero_le _⟩) hS (fun H locs hH hS => ?_)
          refine lv_aload_n hx hb dK_placingRefusal_43 rfl (lv_at hl 1 rfl) ?_
          refine lv_iload_n hx hb dK_placingRefusal_44 rfl (lv_at hl 3 rfl) ?_
          refine s_ciE (va_runV (As := [.int _]) (rest := [.int _]) ⟨hx, hb, hml, hown, hw⟩ (c_G_newTablesFor l  (by assumption) (by first | assumption | omega) (hPl)) (cwV 1 hw (gd_V (gwd_3 (List.mem_of_getElem? (i := 27) rfl)) (gwd_3 (List.mem_of_getElem? (i := 28) rfl)) (gwd_3 (List.mem_of_getElem? (i := 29) rfl)) (gwd_0 (List.mem_of_getElem? (i := 4) rfl)) (gwd_3 (List.mem_of_getElem? (i := 30) rfl))) rfl rfl rfl (by decide +kernel) ⟨Nat.le_of_ble_eq_true rfl, Nat.le_of_ble_eq_true rfl⟩) (gPre.V (n := (6, _, 0)) hK hH (by first | exact ⟨rfl, rfl⟩ | exact ⟨by assumption, rfl⟩ | exact ⟨by assumption, by assumption⟩ | exact ⟨by omega, rfl⟩ | exact ⟨by omega, by omega⟩ | exact ⟨by decide, rfl⟩) rfl rfl) rfl rfl hl.1 rfl (lv_room (Nat.le_of_ble_eq_true rfl)) dK_placingRefusal_45 ⟨Nat.zero_le _, Nat.zero_le _⟩) hS (fun H locs hH hS => ?_)
          refine lv_icmp_ge hx hb dK_placingRefusal_48 rfl (fun h_6 => ?_) (fun h_6 => ?_)
          · skip
            refine lv_iconst (v := 0) hx hb dK_placingRefusal_56 (by decide) ?_
            exact r_i hx hb hr hlk hK hH hS dK_placingRefusal_57 (⟨by first | rw [sRef, if_neg (fun q => q h_1), if_neg (fun q => q.elim h_2 (fun q => q.elim h_3 (fun q => q (by rw [hia]; exact h_4)))), hia, if_neg (fun q => Int32.lt_irrefl (Int32.lt_of_lt_of_le q h_6))] | rw [sRef, if_neg (fun q => q h_1), if_neg (fun q => q.elim h_2 (fun q => q.elim h_3 (fun q => q (by rw [hia]; exact h_4)))), hia, if_pos (Int32.not_le.mp h_6)], rfl⟩)
          · skip
            refine lv_bipush (v := -4) hx hb dK_placingRefusal_51 (by decide) ?_
            refine lv_goto hx hb dK_placingRefusal_53 rfl ?_
            exact r_i hx hb hr hlk hK hH hS dK_placingRefusal_57 (⟨by first | rw [sRef, if_neg (fun q => q h_1), if_neg (fun q => q.elim h_2 (fun q => q.elim h_3 (fun q => q (by rw [hia]; exact h_4)))), hia, if_neg (fun q => Int32.lt_irrefl (Int32.lt_of_lt_of_le q h_6))] | rw [sRef, if_neg (fun q => q h_1), if_neg (fun q => q.elim h_2 (fun q => q.elim h_3 (fun q => q (by rw [hia]; exact h_4)))), hia, if_pos (Int32.not_le.mp h_6)], rfl⟩)
  · skip
    refine lv_bipush (v := -2) hx hb dK_placingRefusal_14 (by decide) ?_
    exact r_i hx hb hr hlk hK hH hS dK_placingRefusal_16 (⟨by rw [sRef, if_pos h_1], rfl⟩)
