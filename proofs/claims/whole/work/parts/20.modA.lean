theorem idx4 (a b : Nat) : (4 : Int32) * nI a + nI b = nI (4 * a + b) := by
  rw [show (4 : Int32) = nI 4 from rfl, pk_mul, nI_add]
theorem gst_ix {a : Int32} {k : Nat} (hk : k ≤ 6) (h1 : ¬ a < 1) (h2 : ¬ nI k < a) : ∃ j, j < 7 ∧ a = nI j := by
  have h0 : ¬ a < 0 := fun q => h1 (Int32.lt_of_lt_of_le q (by decide))
  obtain ⟨j, hj, rfl⟩ := ix_le k (nI k) rfl (by omega) h0 (Int32.not_lt.mp h2)
  exact ⟨j, by omega, rfl⟩
theorem mHeld_cases (J : gI) (G a : Int32) : mHeld J G a = -1 ∨ ∃ q, q < 24 ∧ mHeld J G a = nI q := by
  have key : ∀ (f : Nat → Bool) (n i : Nat), findF f n i = -1 ∨ ∃ q, q < i + n ∧ findF f n i = nI q := by
    intro f n
    induction n with
    | zero => intro i; exact Or.inl rfl
    | succ n ih =>
      intro i
      by_cases h : f i = true
      · exact Or.inr ⟨i, by omega, by simp [findF, h]⟩
      · rcases ih (i + 1) with z | ⟨q, hq, z⟩
        · exact Or.inl (by simp only [findF, h]; exact z)
        · exact Or.inr ⟨q, by omega, by simp only [findF, h]; exact z⟩
  exact key _ 24 0
set_option maxHeartbeats 4000000 in
set_option maxRecDepth 100000 in
theorem c_M_isPage (l : Launch) {D : va_G} {c : Nat → ClassId} {sz : Nat} {ad : gN → Nat} {k : Nat} {I J : gI} {P : gP} {LG : Option Nat} {LP : Option (Nat × Nat)} {x : Int32}  : Met l yM_isPage wM_isPage { frames := 0, cells := 0, slots := 0, locals := 0 } (gPre D c sz [.int x] (ad, k, I, J, P, LG, LP)) (va_Qi (fun r u => r = bz (isP x) ∧ u = (ad, k, I, J, P, LG, LP)) (gB D c sz) (gA sz)) 0 0 (gA sz) := by
  refine Met.ofW (cc := cM_isPage) (maxL := 1) (ret := (some .boolean)) (by decide) rfl ?_
  intro p e s m args below meth cd s₁ B hml hv
  obtain ⟨rfl, hK, hH⟩ := hv
  have hx := B.exec
  have hb := B.bytes
  have hr := B.returns
  have hts := atoms_spec (ws := wM_isPage) B.pre
  have hw : ∀ w ∈ gWd, w.before _ s = true := fun w h => hts w (List.mem_cons_of_mem _ h)
  have hown : s.vm.findClass RM = some m.cls := findClass_of_methodNamed B.named
  have hlk := B.notSynchronized
  have hS : va_S (gA sz) s.heap s.heap [] := va_S.rf
  have hH : gW D c sz ad k I J P LG LP s.heap := hH
  have hl := lv_entry ([.int x]) (n := 1) (Nat.le_of_ble_eq_true rfl)
  rw [lg_entry_eq]
  generalize (lg_sl ([.int x]) ++ List.replicate (1 - (lg_sl ([.int x])).length) Slot.unset).toArray = ls at hl ⊢
  have hl : lv_has ls 1 [(0, .int x)] := hl
  refine lv_iload_n hx hb dM_isPage_0 rfl (lv_at hl 0 rfl) ?_
  refine lv_if_lt hx hb dM_isPage_1 rfl (fun h_1 => ?_) (fun h_1 => ?_)
  · skip
    refine lv_iconst (v := 0) hx hb dM_isPage_14 (by decide) ?_
    exact r_z hx hb hr hlk hK hH hS dM_isPage_15 (by first | exact Or.inl rfl | exact Or.inr rfl | exact bz_01 _ | assumption) (⟨(bz_f (fun q => q.1 h_1)).symm, rfl⟩)
  · skip
    refine lv_iload_n hx hb dM_isPage_4 rfl (lv_at hl 0 rfl) ?_
    refine lv_bipush (v := 24) hx hb dM_isPage_5 (by decide) ?_
    refine lv_icmp_ge hx hb dM_isPage_7 rfl (fun h_2 => ?_) (fun h_2 => ?_)
    · skip
      refine lv_iconst (v := 0) hx hb dM_isPage_14 (by decide) ?_
      exact r_z hx hb hr hlk hK hH hS dM_isPage_15 (by first | exact Or.inl rfl | exact Or.inr rfl | exact bz_01 _ | assumption) (⟨by first | exact (bz_t ⟨h_1, h_2⟩).symm | exact (bz_f (fun q => q.2 h_2)).symm, rfl⟩)
    · skip
      refine lv_iconst (v := 1) hx hb dM_isPage_10 (by decide) ?_
      refine lv_goto hx hb dM_isPage_11 rfl ?_
      exact r_z hx hb hr hlk hK hH hS dM_isPage_15 (by first | exact Or.inl rfl | exact Or.inr rfl | exact bz_01 _ | assumption) (⟨by first | exact (bz_t ⟨h_1, h_2⟩).symm | exact (bz_f (fun q => q.2 h_2)).symm, rfl⟩)
set_option maxHeartbeats 4000000 in
set_option maxRecDepth 100000 in
theorem c_M_isFree (l : Launch) {D : va_G} {c : Nat → ClassId} {sz : Nat} {ad : gN → Nat} {k : Nat} {I J : gI} {P : gP} {LG : Option Nat} {LP : Option (Nat × Nat)} {x : Int32}  : Met l yM_isFree wM_isFree { frames := 1, cells := 0, slots := 0, locals := 20 } (gPre D c sz [.ref (ad (11, 0, 0)), .int x] (ad, k, I, J, P, LG, LP)) (va_Qi (fun r u => r = bz (mFree J x) ∧ u = (ad, k, I, J, P, LG, LP)) (gB D c sz) (gA sz)) 0 0 (gA sz) := by
  refine Met.ofW (cc := cM_isFree) (maxL := 2) (ret := (some .boolean)) (by decide) rfl ?_
  intro p e s m args below meth cd s₁ B hml hv
  obtain ⟨rfl, hK, hH⟩ := hv
  have hx := B.exec
  have hb := B.bytes
  have hr := B.returns
  have hts := atoms_spec (ws := wM_isFree) B.pre
  have hw : ∀ w ∈ gWd, w.before _ s = true := fun w h => hts w (List.mem_cons_of_mem _ h)
  have hown : s.vm.findClass RM = some m.cls := findClass_of_methodNamed B.named
  have hlk := B.notSynchronized
  have hS : va_S (gA sz) s.heap s.heap [] := va_S.rf
  have hH : gW D c sz ad k I J P LG LP s.heap := hH
  have hl := lv_entry ([.ref (ad (11, 0, 0)), .int x]) (n := 2) (Nat.le_of_ble_eq_true rfl)
  rw [lg_entry_eq]
  generalize (lg_sl ([.ref (ad (11, 0, 0)), .int x]) ++ List.replicate (2 - (lg_sl ([.ref (ad (11, 0, 0)), .int x])).length) Slot.unset).toArray = ls at hl ⊢
  have hl : lv_has ls 2 [(0, .ref (ad (11, 0, 0))), (1, .int x)] := hl
  refine lv_iload_n hx hb dM_isFree_0 rfl (lv_at hl 1 rfl) ?_
  refine s_ciE (va_runS (As := [.int _]) (rest := []) ⟨hx, hb, hml, hown, hw⟩ (c_M_isPage l  ) (cwS 1 hw (gd_S (gwd_6 (List.mem_of_getElem? (i := 34) rfl)) (gwd_6 (List.mem_of_getElem? (i := 35) rfl)) (gwd_0 (List.mem_of_getElem? (i := 3) rfl)) (gwd_6 (List.mem_of_getElem? (i := 36) rfl))) rfl rfl rfl (by decide +kernel) ⟨Nat.le_of_ble_eq_true rfl, Nat.le_of_ble_eq_true rfl⟩) (gPre.S hK hH) rfl rfl hl.1 rfl (lv_room (Nat.le_of_ble_eq_true rfl)) dM_isFree_1 ⟨Nat.zero_le _, Nat.zero_le _⟩) hS (fun H locs hH hS => ?_)
  refine s_ifeq hx hb dM_isFree_4 rfl (fun h_1 => ?_) (fun h_1 => ?_)
  · skip
    refine lv_iconst (v := 0) hx hb dM_isFree_29 (by decide) ?_
    exact r_z hx hb hr hlk hK hH hS dM_isFree_30 (by first | exact Or.inl rfl | exact Or.inr rfl | exact bz_01 _ | assumption) (⟨(bz_f (fun q => h_1 q.1)).symm, rfl⟩)
  · skip
    obtain ⟨j, hj, rfl⟩ := isP_ix h_1
    have hi : ix (nI j) = j := ix_nI (by omega)
    refine lv_aload_n hx hb dM_isFree_7 rfl (lv_at hl 0 rfl) ?_
    refine s_get hx hb hw inM hown hK hH 1 (by decide) (hw _ (gwd_5 (List.mem_of_getElem? (i := 41) rfl))) (by first | exact ⟨rfl, rfl⟩ | exact ⟨by assumption, rfl⟩ | exact ⟨by assumption, by assumption⟩ | exact ⟨by omega, rfl⟩ | exact ⟨by omega, by omega⟩ | exact ⟨by decide, rfl⟩) rfl rfl rfl rfl dM_isFree_8 ?_
    refine lv_iload_n hx hb dM_isFree_11 rfl (lv_at hl 1 rfl) ?_
    refine m_iald hx hb hK hH (by first | exact ⟨rfl, rfl⟩ | exact ⟨by assumption, rfl⟩ | exact ⟨by assumption, by assumption⟩ | exact ⟨by omega, rfl⟩ | exact ⟨by omega, by omega⟩ | exact ⟨by decide, rfl⟩) rfl _ (by first | rfl | assumption) (show _ < 24 from by first | assumption | decide | omega) (by decide) dM_isFree_12 ?_
    refine lv_if_ne hx hb dM_isFree_13 rfl (fun h_2 => ?_) (fun h_2 => ?_)
    · skip
      refine lv_iconst (v := 0) hx hb dM_isFree_29 (by decide) ?_
      exact r_z hx hb hr hlk hK hH hS dM_isFree_30 (by first | exact Or.inl rfl | exact Or.inr rfl | exact bz_01 _ | assumption) (⟨(bz_f (fun q => h_2 (by have z := q.2.1; rw [hi] at z; exact z))).symm, rfl⟩)
    · skip
      refine lv_aload_n hx hb dM_isFree_16 rfl (lv_at hl 0 rfl) ?_
      refine s_get hx hb hw inM hown hK hH 3 (by decide) (hw _ (gwd_5 (List.mem_of_getElem? (i := 43) rfl))) (by first | exact ⟨rfl, rfl⟩ | exact ⟨by assumption, rfl⟩ | exact ⟨by assumption, by assumption⟩ | exact ⟨by omega, rfl⟩ | exact ⟨by omega, by omega⟩ | exact ⟨by decide, rfl⟩) rfl rfl rfl rfl dM_isFree_17 ?_
      refine lv_iload_n hx hb dM_isFree_20 rfl (lv_at hl 1 rfl) ?_
      refine m_iald hx hb hK hH (by first | exact ⟨rfl, rfl⟩ | exact ⟨by assumption, rfl⟩ | exact ⟨by assumption, by assumption⟩ | exact ⟨by omega, rfl⟩ | exact ⟨by omega, by omega⟩ | exact ⟨by decide, rfl⟩) rfl _ (by first | rfl | assumption) (show _ < 24 from by first | assumption | decide | omega) (by decide) dM_isFree_21 ?_
      refine lv_if_ne hx hb dM_isFree_22 rfl (fun h_3 => ?_) (fun h_3 => ?_)
      · skip
        refine lv_iconst (v := 0) hx hb dM_isFree_29 (by decide) ?_
        exact r_z hx hb hr hlk hK hH hS dM_isFree_30 (by first | exact Or.inl rfl | exact Or.inr rfl | exact bz_01 _ | assumption) (⟨by first | exact (bz_t ⟨h_1, by rw [hi]; exact h_2, by rw [hi]; exact h_3⟩).symm | exact (bz_f (fun q => h_3 (by have z := q.2.2; rw [hi] at z; exact z))).symm, rfl⟩)
      · skip
        refine lv_iconst (v := 1) hx hb dM_isFree_25 (by decide) ?_
        refine lv_goto hx hb dM_isFree_26 rfl ?_
        exact r_z hx hb hr hlk hK hH hS dM_isFree_30 (by first | exact Or.inl rfl | exact Or.inr rfl | exact bz_01 _ | assumption) (⟨by first | exact (bz_t ⟨h_1, by rw [hi]; exact h_2, by rw [hi]; exact h_3⟩).symm | exact (bz_f (fun q => h_3 (by have z := q.2.2; rw [hi] at z; exact z))).symm, rfl⟩)
set_option maxHeartbeats 4000000 in
set_option maxRecDepth 100000 in
theorem c_M_isGuest (l : Launch) {D : va_G} {c : Nat → ClassId} {sz : Nat} {ad : gN → Nat} {k : Nat} {I J : gI} {P : gP} {LG : Option Nat} {LP : Option (Nat × Nat)} {a : Int32} (hk : k ≤ 6) (hmd : J (11, 0, 0) 7 = nI k) : Met l yM_isGuest wM_isGuest { frames := 0, cells := 0, slots := 0, locals := 0 } (gPre D c sz [.ref (ad (11, 0, 0)), .int a] (ad, k, I, J, P, LG, LP)) (va_Qi (fun r u => r = bz (mGst J a) ∧ u = (ad, k, I, J, P, LG, LP)) (gB D c sz) (gA sz)) 0 0 (gA sz) := by
  refine Met.ofW (cc := cM_isGuest) (maxL := 2) (ret := (some .boolean)) (by decide) rfl ?_
  intro p e s m args below meth cd s₁ B hml hv
  obtain ⟨rfl, hK, hH⟩ := hv
  have hx := B.exec
  have hb := B.bytes
  have hr := B.returns
  have hts := atoms_spec (ws := wM_isGuest) B.pre
  have hw : ∀ w ∈ gWd, w.before _ s = true := fun w h => hts w (List.mem_cons_of_mem _ h)
  have hown : s.vm.findClass RM = some m.cls := findClass_of_methodNamed B.named
  have hlk := B.notSynchronized
  have hS : va_S (gA sz) s.heap s.heap [] := va_S.rf
  have hH : gW D c sz ad k I J P LG LP s.heap := hH
  have hl := lv_entry ([.ref (ad (11, 0, 0)), .int a]) (n := 2) (Nat.le_of_ble_eq_true rfl)
  rw [lg_entry_eq]
  generalize (lg_sl ([.ref (ad (11, 0, 0)), .int a]) ++ List.replicate (2 - (lg_sl ([.ref (ad (11, 0, 0)), .int a])).length) Slot.unset).toArray = ls at hl ⊢
  have hl : lv_has ls 2 [(0, .ref (ad (11, 0, 0))), (1, .int a)] := hl
  refine lv_iload_n hx hb dM_isGuest_0 rfl (lv_at hl 1 rfl) ?_
  refine lv_iconst (v := 1) hx hb dM_isGuest_1 (by decide) ?_
  refine lv_icmp_lt hx hb dM_isGuest_2 rfl (fun h_1 => ?_) (fun h_1 => ?_)
  · skip
    refine lv_iconst (v := 0) hx hb dM_isGuest_26 (by decide) ?_
    exact r_z hx hb hr hlk hK hH hS dM_isGuest_27 (by first | exact Or.inl rfl | exact Or.inr rfl | exact bz_01 _ | assumption) (⟨(bz_f (fun q => q.1 h_1)).symm, rfl⟩)
  · skip
    refine lv_iload_n hx hb dM_isGuest_5 rfl (lv_at hl 1 rfl) ?_
    refine lv_aload_n hx hb dM_isGuest_6 rfl (lv_at hl 0 rfl) ?_
    refine s_get hx hb hw inM hown hK hH 7 (by decide) (hw _ (gwd_5 (List.mem_of_getElem? (i := 47) rfl))) (by first | exact ⟨rfl, rfl⟩ | exact ⟨by assumption, rfl⟩ | exact ⟨by assumption, by assumption⟩ | exact ⟨by omega, rfl⟩ | exact ⟨by omega, by omega⟩ | exact ⟨by decide, rfl⟩) rfl rfl rfl rfl dM_isGuest_7 ?_
    refine lv_icmp_gt hx hb dM_isGuest_10 rfl (fun h_2 => ?_) (fun h_2 => ?_)
    · skip
      refine lv_iconst (v := 0) hx hb dM_isGuest_26 (by decide) ?_
      exact r_z hx hb hr hlk hK hH hS dM_isGuest_27 (by first | exact Or.inl rfl | exact Or.inr rfl | exact bz_01 _ | assumption) (⟨(bz_f (fun q => q.2.1 h_2)).symm, rfl⟩)
    · skip
      obtain ⟨j, hj, rfl⟩ := gst_ix hk h_1 (by rw [← hmd]; exact h_2)
      have hi : ix (nI j) = j := ix_nI (by omega)
      refine lv_aload_n hx hb dM_isGuest_13 rfl (lv_at hl 0 rfl) ?_
      refine s_get hx hb hw inM hown hK hH 8 (by decide) (hw _ (gwd_6 (List.mem_of_getElem? (i := 0) rfl))) (by first | exact ⟨rfl, rfl⟩ | exact ⟨by assumption, rfl⟩ | exact ⟨by assumption, by assumption⟩ | exact ⟨by omega, rfl⟩ | exact ⟨by omega, by omega⟩ | exact ⟨by decide, rfl⟩) rfl rfl rfl rfl dM_isGuest_14 ?_
      refine lv_iload_n hx hb dM_isGuest_17 rfl (lv_at hl 1 rfl) ?_
      refine m_zald hx hb hK hH (by first | exact ⟨rfl, rfl⟩ | exact ⟨by assumption, rfl⟩ | exact ⟨by assumption, by assumption⟩ | exact ⟨by omega, rfl⟩ | exact ⟨by omega, by omega⟩ | exact ⟨by decide, rfl⟩) rfl _ (by first | rfl | assumption) (show _ < 7 from by first | assumption | decide | omega) (by decide) dM_isGuest_18 ?_
      refine lv_if_eq hx hb dM_isGuest_19 rfl (fun h_3 => ?_) (fun h_3 => ?_)
      · skip
        refine lv_iconst (v := 0) hx hb dM_isGuest_26 (by decide) ?_
        exact r_z hx hb hr hlk hK hH hS dM_isGuest_27 (by first | exact Or.inl rfl | exact Or.inr rfl | exact bz_01 _ | assumption) (⟨by first | exact (bz_t ⟨h_1, h_2, by rw [hi]; exact h_3⟩).symm | exact (bz_f (fun q => q.2.2 (by rw [hi]; exact h_3))).symm, rfl⟩)
      · skip
        refine lv_iconst (v := 1) hx hb dM_isGuest_22 (by decide) ?_
        refine lv_goto hx hb dM_isGuest_23 rfl ?_
        exact r_z hx hb hr hlk hK hH hS dM_isGuest_27 (by first | exact Or.inl rfl | exact Or.inr rfl | exact bz_01 _ | assumption) (⟨by first | exact (bz_t ⟨h_1, h_2, by rw [hi]; exact h_3⟩).symm | exact (bz_f (fun q => q.2.2 (by rw [hi]; exact h_3))).symm, rfl⟩)
set_option maxHeartbeats 4000000 in
set_option maxRecDepth 100000 in
theorem c_M_hostMay (l : Launch) {D : va_G} {c : Nat → ClassId} {sz : Nat} {ad : gN → Nat} {k : Nat} {I J : gI} {P : gP} {LG : Option Nat} {LP : Option (Nat × Nat)} {q : Nat} (hq : q < 24) : Met l yM_hostMay wM_hostMay { frames := 0, cells := 0, slots := 0, locals := 0 } (gPre D c sz [.ref (ad (11, 0, 0)), .int (nI q)] (ad, k, I, J, P, LG, LP)) (va_Qi (fun r u => r = bz (mMay J q) ∧ u = (ad, k, I, J, P, LG, LP)) (gB D c sz) (gA sz)) 0 0 (gA sz) := by
  refine Met.ofW (cc := cM_hostMay) (maxL := 2) (ret := (some .boolean)) (by decide) rfl ?_
  intro p e s m args below meth cd s₁ B hml hv
  obtain ⟨rfl, hK, hH⟩ := hv
  have hx := B.exec
  have hb := B.bytes
  have hr := B.returns
  have hts := atoms_spec (ws := wM_hostMay) B.pre
  have hw : ∀ w ∈ gWd, w.before _ s = true := fun w h => hts w (List.mem_cons_of_mem _ h)
  have hown : s.vm.findClass RM = some m.cls := findClass_of_methodNamed B.named
  have hlk := B.notSynchronized
  have hS : va_S (gA sz) s.heap s.heap [] := va_S.rf
  have hH : gW D c sz ad k I J P LG LP s.heap := hH
  have hl := lv_entry ([.ref (ad (11, 0, 0)), .int (nI q)]) (n := 2) (Nat.le_of_ble_eq_true rfl)
  rw [lg_entry_eq]
  generalize (lg_sl ([.ref (ad (11, 0, 0)), .int (nI q)]) ++ List.replicate (2 - (lg_sl ([.ref (ad (11, 0, 0)), .int (nI q)])).length) Slot.unset).toArray = ls at hl ⊢
  have hl : lv_has ls 2 [(0, .ref (ad (11, 0, 0))), (1, .int (nI q))] := hl
  refine lv_aload_n hx hb dM_hostMay_0 rfl (lv_at hl 0 rfl) ?_
  refine s_get hx hb hw inM hown hK hH 1 (by decide) (hw _ (gwd_5 (List.mem_of_getElem? (i := 41) rfl))) (by first | exact ⟨rfl, rfl⟩ | exact ⟨by assumption, rfl⟩ | exact ⟨by assumption, by assumption⟩ | exact ⟨by omega, rfl⟩ | exact ⟨by omega, by omega⟩ | exact ⟨by decide, rfl⟩) rfl rfl rfl rfl dM_hostMay_1 ?_
  refine lv_iload_n hx hb dM_hostMay_4 rfl (lv_at hl 1 rfl) ?_
  refine m_iald hx hb hK hH (by first | exact ⟨rfl, rfl⟩ | exact ⟨by assumption, rfl⟩ | exact ⟨by assumption, by assumption⟩ | exact ⟨by omega, rfl⟩ | exact ⟨by omega, by omega⟩ | exact ⟨by decide, rfl⟩) rfl _ (by first | rfl | assumption) (show _ < 24 from by first | assumption | decide | omega) (by decide) dM_hostMay_5 ?_
  refine lv_if_eq hx hb dM_hostMay_6 rfl (fun h_1 => ?_) (fun h_1 => ?_)
  · skip
    refine lv_iconst (v := 1) hx hb dM_hostMay_18 (by decide) ?_
    refine lv_goto hx hb dM_hostMay_19 rfl ?_
    exact r_z hx hb hr hlk hK hH hS dM_hostMay_23 (by first | exact Or.inl rfl | exact Or.inr rfl | exact bz_01 _ | assumption) (⟨by simp [bz, h_1], rfl⟩)
  · skip
    refine lv_aload_n hx hb dM_hostMay_9 rfl (lv_at hl 0 rfl) ?_
    refine s_get hx hb hw inM hown hK hH 5 (by decide) (hw _ (gwd_5 (List.mem_of_getElem? (i := 45) rfl))) (by first | exact ⟨rfl, rfl⟩ | exact ⟨by assumption, rfl⟩ | exact ⟨by assumption, by assumption⟩ | exact ⟨by omega, rfl⟩ | exact ⟨by omega, by omega⟩ | exact ⟨by decide, rfl⟩) rfl rfl rfl rfl dM_hostMay_10 ?_
    refine lv_iload_n hx hb dM_hostMay_13 rfl (lv_at hl 1 rfl) ?_
    refine m_zald hx hb hK hH (by first | exact ⟨rfl, rfl⟩ | exact ⟨by assumption, rfl⟩ | exact ⟨by assumption, by assumption⟩ | exact ⟨by omega, rfl⟩ | exact ⟨by omega, by omega⟩ | exact ⟨by decide, rfl⟩) rfl _ (by first | rfl | assumption) (show _ < 24 from by first | assumption | decide | omega) (by decide) dM_hostMay_14 ?_
    refine lv_if_eq hx hb dM_hostMay_15 rfl (fun h_2 => ?_) (fun h_2 => ?_)
    · skip
      refine lv_iconst (v := 0) hx hb dM_hostMay_22 (by decide) ?_
      exact r_z hx hb hr hlk hK hH hS dM_hostMay_23 (by first | exact Or.inl rfl | exact Or.inr rfl | exact bz_01 _ | assumption) (⟨by simp [bz, h_1, h_2], rfl⟩)
    · skip
      refine lv_iconst (v := 1) hx hb dM_hostMay_18 (by decide) ?_
      refine lv_goto hx hb dM_hostMay_19 rfl ?_
      exact r_z hx hb hr hlk hK hH hS dM_hostMay_23 (by first | exact Or.inl rfl | exact Or.inr rfl | exact bz_01 _ | assumption) (⟨by simp [bz, h_1, h_2], rfl⟩)
set_option maxHeartbeats 4000000 in
set_option maxRecDepth 100000 in
theorem c_M_wipe (l : Launch) {D : va_G} {c : Nat → ClassId} {sz : Nat} {ad : gN → Nat} {k : Nat} {I J : gI} {P : gP} {LG : Option Nat} {LP : Option (Nat × Nat)} {q : Nat} (hq : q < 24) : Met l yM_wipe wM_wipe { frames := 0, cells := 0, slots := 0, locals := 0 } (gPre D c sz [.ref (ad (11, 0, 0)), .int (nI q)] (ad, k, I, J, P, LG, LP)) (va_Qv (fun u => u = (ad, k, I, mWipe J q, P, LG, LP)) (gB D c sz) (gA sz)) 0 0 (gA sz) := by
  refine Met.ofW (cc := cM_wipe) (maxL := 3) (ret := none) (by decide) rfl ?_
  intro p e s m args below meth cd s₁ B hml hv
  obtain ⟨rfl, hK, hH⟩ := hv
  have hx := B.exec
  have hb := B.bytes
  have hr := B.returns
  have hts := atoms_spec (ws := wM_wipe) B.pre
  have hw : ∀ w ∈ gWd, w.before _ s = true := fun w h => hts w (List.mem_cons_of_mem _ h)
  have hown : s.vm.findClass RM = some m.cls := findClass_of_methodNamed B.named
  have hlk := B.notSynchronized
  have hS : va_S (gA sz) s.heap s.heap [] := va_S.rf
  have hH : gW D c sz ad k I J P LG LP s.heap := hH
  have hl := lv_entry ([.ref (ad (11, 0, 0)), .int (nI q)]) (n := 3) (Nat.le_of_ble_eq_true rfl)
  rw [lg_entry_eq]
  generalize (lg_sl ([.ref (ad (11, 0, 0)), .int (nI q)]) ++ List.replicate (3 - (lg_sl ([.ref (ad (11, 0, 0)), .int (nI q)])).length) Slot.unset).toArray = ls at hl ⊢
  have hl : lv_has ls 3 [(0, .ref (ad (11, 0, 0))), (1, .int (nI q))] := hl
  refine lv_iconst (v := 0) hx hb dM_wipe_0 (by decide) ?_
  refine lv_istore_n hx hb dM_wipe_1 rfl hl (by decide) rfl (fun ls hl => ?_)
  have hl : lv_has ls 3 [(2, .int _), (0, .ref _), (1, .int _)] := hl
  refine lv_iload_n hx hb dM_wipe_2 rfl (lv_at hl 0 rfl) ?_
  refine lv_iconst (v := 4) hx hb dM_wipe_3 (by decide) ?_
  refine lv_icmp_ge hx hb dM_wipe_4 rfl (fun h_1 => ?_) (fun h_1 => ?_)
  · exact absurd h_1 (by decide)
  · skip
    refine lv_aload_n hx hb dM_wipe_7 rfl (lv_at hl 1 rfl) ?_
    refine s_get hx hb hw inM hown hK hH 0 (by decide) (hw _ (gwd_5 (List.mem_of_getElem? (i := 40) rfl))) (by first | exact ⟨rfl, rfl⟩ | exact ⟨by assumption, rfl⟩ | exact ⟨by assumption, by assumption⟩ | exact ⟨by omega, rfl⟩ | exact ⟨by omega, by omega⟩ | exact ⟨by decide, rfl⟩) rfl rfl rfl rfl dM_wipe_8 ?_
    refine lv_iconst (v := 4) hx hb dM_wipe_11 (by decide) ?_
    refine lv_iload_n hx hb dM_wipe_12 rfl (lv_at hl 2 rfl) ?_
    refine lv_imul hx hb dM_wipe_13 ?_
    refine lv_iload_n hx hb dM_wipe_14 rfl (lv_at hl 0 rfl) ?_
    refine lv_iadd hx hb dM_wipe_15 ?_
    refine lv_iconst (v := 0) hx hb dM_wipe_16 (by decide) ?_
    refine m_iast hx hb hK hH hS (by first | exact ⟨rfl, rfl⟩ | exact ⟨by assumption, rfl⟩ | exact ⟨by assumption, by assumption⟩ | exact ⟨by omega, rfl⟩ | exact ⟨by omega, by omega⟩ | exact ⟨by decide, rfl⟩) rfl (4 * q + 0) (idx4 q 0) (show _ < 96 from by omega) (by decide) rfl dM_wipe_17 (fun H locs hH hS => ?_)
    refine lv_iinc (k := 0) (v := 1) hx hb dM_wipe_18 hl rfl (by decide) (by decide) rfl (fun ls hl => ?_)
    have hl : lv_has ls 3 [(2, .int _), (0, .ref _), (1, .int _)] := hl
    refine lv_goto hx hb dM_wipe_21 rfl ?_
    refine lv_iload_n hx hb dM_wipe_2 rfl (lv_at hl 0 rfl) ?_
    refine lv_iconst (v := 4) hx hb dM_wipe_3 (by decide) ?_
    refine lv_icmp_ge hx hb dM_wipe_4 rfl (fun h_2 => ?_) (fun h_2 => ?_)
    · exact absurd h_2 (by decide)
    · skip
      refine lv_aload_n hx hb dM_wipe_7 rfl (lv_at hl 1 rfl) ?_
      refine s_get hx hb hw inM hown hK hH 0 (by decide) (hw _ (gwd_5 (List.mem_of_getElem? (i := 40) rfl))) (by first | exact ⟨rfl, rfl⟩ | exact ⟨by assumption, rfl⟩ | exact ⟨by assumption, by assumption⟩ | exact ⟨by omega, rfl⟩ | exact ⟨by omega, by omega⟩ | exact ⟨by decide, rfl⟩) rfl rfl rfl rfl dM_wipe_8 ?_
      refine lv_iconst (v := 4) hx hb dM_wipe_11 (by decide) ?_
      refine lv_iload_n hx hb dM_wipe_12 rfl (lv_at hl 2 rfl) ?_
      refine lv_imul hx hb dM_wipe_13 ?_
      refine lv_iload_n hx hb dM_wipe_14 rfl (lv_at hl 0 rfl) ?_
      refine lv_iadd hx hb dM_wipe_15 ?_
      refine lv_iconst (v := 0) hx hb dM_wipe_16 (by decide) ?_
      refine m_iast hx hb hK hH hS (by first | exact ⟨rfl, rfl⟩ | exact ⟨by assumption, rfl⟩ | exact ⟨by assumption, by assumption⟩ | exact ⟨by omega, rfl⟩ | exact ⟨by omega, by omega⟩ | exact ⟨by decide, rfl⟩) rfl (4 * q + 1) (idx4 q 1) (show _ < 96 from by omega) (by decide) rfl dM_wipe_17 (fun H locs hH hS => ?_)
      refine lv_iinc (k := 0) (v := 2) hx hb dM_wipe_18 hl rfl (by decide) (by decide) rfl (fun ls hl => ?_)
      have hl : lv_has ls 3 [(2, .int _), (0, .ref _), (1, .int _)] := hl
      refine lv_goto hx hb dM_wipe_21 rfl ?_
      refine lv_iload_n hx hb dM_wipe_2 rfl (lv_at hl 0 rfl) ?_
      refine lv_iconst (v := 4) hx hb dM_wipe_3 (by decide) ?_
      refine lv_icmp_ge hx hb dM_wipe_4 rfl (fun h_3 => ?_) (fun h_3 => ?_)
      · exact absurd h_3 (by decide)
      · skip
        refine lv_aload_n hx hb dM_wipe_7 rfl (lv_at hl 1 rfl) ?_
        refine s_get hx hb hw inM hown hK hH 0 (by decide) (hw _ (gwd_5 (List.mem_of_getElem? (i := 40) rfl))) (by first | exact ⟨rfl, rfl⟩ | exact ⟨by assumption, rfl⟩ | exact ⟨by assumption, by assumption⟩ | exact ⟨by omega, rfl⟩ | exact ⟨by omega, by omega⟩ | exact ⟨by decide, rfl⟩) rfl rfl rfl rfl dM_wipe_8 ?_
        refine lv_iconst (v := 4) hx hb dM_wipe_11 (by decide) ?_
        refine lv_iload_n hx hb dM_wipe_12 rfl (lv_at hl 2 rfl) ?_
        refine lv_imul hx hb dM_wipe_13 ?_
        refine lv_iload_n hx hb dM_wipe_14 rfl (lv_at hl 0 rfl) ?_
        refine lv_iadd hx hb dM_wipe_15 ?_
        refine lv_iconst (v := 0) hx hb dM_wipe_16 (by decide) ?_
        refine m_iast hx hb hK hH hS (by first | exact ⟨rfl, rfl⟩ | exact ⟨by assumption, rfl⟩ | exact ⟨by assumption, by assumption⟩ | exact ⟨by omega, rfl⟩ | exact ⟨by omega, by omega⟩ | exact ⟨by decide, rfl⟩) rfl (4 * q + 2) (idx4 q 2) (show _ < 96 from by omega) (by decide) rfl dM_wipe_17 (fun H locs hH hS => ?_)
        refine lv_iinc (k := 0) (v := 3) hx hb dM_wipe_18 hl rfl (by decide) (by decide) rfl (fun ls hl => ?_)
        have hl : lv_has ls 3 [(2, .int _), (0, .ref _), (1, .int _)] := hl
        refine lv_goto hx hb dM_wipe_21 rfl ?_
        refine lv_iload_n hx hb dM_wipe_2 rfl (lv_at hl 0 rfl) ?_
        refine lv_iconst (v := 4) hx hb dM_wipe_3 (by decide) ?_
        refine lv_icmp_ge hx hb dM_wipe_4 rfl (fun h_4 => ?_) (fun h_4 => ?_)
        · exact absurd h_4 (by decide)
        · skip
          refine lv_aload_n hx hb dM_wipe_7 rfl (lv_at hl 1 rfl) ?_
          refine s_get hx hb hw inM hown hK hH 0 (by decide) (hw _ (gwd_5 (List.mem_of_getElem? (i := 40) rfl))) (by first | exact ⟨rfl, rfl⟩ | exact ⟨by assumption, rfl⟩ | exact ⟨by assumption, by assumption⟩ | exact ⟨by omega, rfl⟩ | exact ⟨by omega, by omega⟩ | exact ⟨by decide, rfl⟩) rfl rfl rfl rfl dM_wipe_8 ?_
          refine lv_iconst (v := 4) hx hb dM_wipe_11 (by decide) ?_
          refine lv_iload_n hx hb dM_wipe_12 rfl (lv_at hl 2 rfl) ?_
          refine lv_imul hx hb dM_wipe_13 ?_
          refine lv_iload_n hx hb dM_wipe_14 rfl (lv_at hl 0 rfl) ?_
          refine lv_iadd hx hb dM_wipe_15 ?_
          refine lv_iconst (v := 0) hx hb dM_wipe_16 (by decide) ?_
          refine m_iast hx hb hK hH hS (by first | exact ⟨rfl, rfl⟩ | exact ⟨by assumption, rfl⟩ | exact ⟨by assumption, by assumption⟩ | exact ⟨by omega, rfl⟩ | exact ⟨by omega, by omega⟩ | exact ⟨by decide, rfl⟩) rfl (4 * q + 3) (idx4 q 3) (show _ < 96 from by omega) (by decide) rfl dM_wipe_17 (fun H locs hH hS => ?_)
          refine lv_iinc (k := 0) (v := 4) hx hb dM_wipe_18 hl rfl (by decide) (by decide) rfl (fun ls hl => ?_)
          have hl : lv_has ls 3 [(2, .int _), (0, .ref _), (1, .int _)] := hl
          refine lv_goto hx hb dM_wipe_21 rfl ?_
          refine lv_iload_n hx hb dM_wipe_2 rfl (lv_at hl 0 rfl) ?_
          refine lv_iconst (v := 4) hx hb dM_wipe_3 (by decide) ?_
          refine lv_icmp_ge hx hb dM_wipe_4 rfl (fun h_5 => ?_) (fun h_5 => ?_)
          · skip
            exact r_v hx hb hr hlk hK hH hS dM_wipe_24 (rfl)
          · exact absurd h_5 (by decide)
set_option maxHeartbeats 4000000 in
set_option maxRecDepth 100000 in
theorem c_M_look (l : Launch) {D : va_G} {c : Nat → ClassId} {sz : Nat} {ad : gN → Nat} {k : Nat} {I J : gI} {P : gP} {LG : Option Nat} {LP : Option (Nat × Nat)} {q : Nat} (hq : q < 24) : Met l yM_look wM_look { frames := 1, cells := 0, slots := 0, locals := 21 } (gPre D c sz [.ref (ad (11, 0, 0)), .int (nI q)] (ad, k, I, J, P, LG, LP)) (va_Qv (fun u => u = (ad, k, I, mLook J q, P, LG, LP)) (gB D c sz) (gA sz)) 0 0 (gA sz) := by
  refine Met.ofW (cc := cM_look) (maxL := 2) (ret := none) (by decide) rfl ?_
  intro p e s m args below meth cd s₁ B hml hv
  obtain ⟨rfl, hK, hH⟩ := hv
  have hx := B.exec
  have hb := B.bytes
  have hr := B.returns
  have hts := atoms_spec (ws := wM_look) B.pre
  have hw : ∀ w ∈ gWd, w.before _ s = true := fun w h => hts w (List.mem_cons_of_mem _ h)
  have hown : s.vm.findClass RM = some m.cls := findClass_of_methodNamed B.named
  have hlk := B.notSynchronized
  have hS : va_S (gA sz) s.heap s.heap [] := va_S.rf
  have hH : gW D c sz ad k I J P LG LP s.heap := hH
  have hl := lv_entry ([.ref (ad (11, 0, 0)), .int (nI q)]) (n := 2) (Nat.le_of_ble_eq_true rfl)
  rw [lg_entry_eq]
  generalize (lg_sl ([.ref (ad (11, 0, 0)), .int (nI q)]) ++ List.replicate (2 - (lg_sl ([.ref (ad (11, 0, 0)), .int (nI q)])).length) Slot.unset).toArray = ls at hl ⊢
  have hl : lv_has ls 2 [(0, .ref (ad (11, 0, 0))), (1, .int (nI q))] := hl
  refine lv_aload_n hx hb dM_look_0 rfl (lv_at hl 0 rfl) ?_
  refine s_get hx hb hw inM hown hK hH 6 (by decide) (hw _ (gwd_5 (List.mem_of_getElem? (i := 46) rfl))) (by first | exact ⟨rfl, rfl⟩ | exact ⟨by assumption, rfl⟩ | exact ⟨by assumption, by assumption⟩ | exact ⟨by omega, rfl⟩ | exact ⟨by omega, by omega⟩ | exact ⟨by decide, rfl⟩) rfl rfl rfl rfl dM_look_1 ?_
  refine lv_iload_n hx hb dM_look_4 rfl (lv_at hl 1 rfl) ?_
  refine lv_aload_n hx hb dM_look_5 rfl (lv_at hl 0 rfl) ?_
  refine s_get hx hb hw inM hown hK hH 6 (by decide) (hw _ (gwd_5 (List.mem_of_getElem? (i := 46) rfl))) (by first | exact ⟨rfl, rfl⟩ | exact ⟨by assumption, rfl⟩ | exact ⟨by assumption, by assumption⟩ | exact ⟨by omega, rfl⟩ | exact ⟨by omega, by omega⟩ | exact ⟨by decide, rfl⟩) rfl rfl rfl rfl dM_look_6 ?_
  refine lv_iload_n hx hb dM_look_9 rfl (lv_at hl 1 rfl) ?_
  refine m_zald hx hb hK hH (by first | exact ⟨rfl, rfl⟩ | exact ⟨by assumption, rfl⟩ | exact ⟨by assumption, by assumption⟩ | exact ⟨by omega, rfl⟩ | exact ⟨by omega, by omega⟩ | exact ⟨by decide, rfl⟩) rfl _ (by first | rfl | assumption) (show _ < 24 from by first | assumption | decide | omega) (by decide) dM_look_10 ?_
  refine lv_if_eq hx hb dM_look_11 rfl (fun h_1 => ?_) (fun h_1 => ?_)
  · skip
    refine lv_iconst (v := 0) hx hb dM_look_26 (by decide) ?_
    refine m_zast hx hb hK hH hS (by first | exact ⟨rfl, rfl⟩ | exact ⟨by assumption, rfl⟩ | exact ⟨by assumption, by assumption⟩ | exact ⟨by omega, rfl⟩ | exact ⟨by omega, by omega⟩ | exact ⟨by decide, rfl⟩) rfl _ (by first | rfl | assumption) (show _ < 24 from by first | assumption | decide | omega) (by decide) (by first | exact Or.inl rfl | exact Or.inr rfl | exact bz_01 _ | assumption) rfl dM_look_27 (fun H locs hH hS => ?_)
    exact r_v hx hb hr hlk hK hH hS dM_look_28 (by simp [mLook, bz, h_1])
  · skip
    refine lv_aload_n hx hb dM_look_14 rfl (lv_at hl 0 rfl) ?_
    refine lv_iload_n hx hb dM_look_15 rfl (lv_at hl 1 rfl) ?_
    refine s_ciE (va_runV (As := [.int _]) (rest := [.int _, .ref _]) ⟨hx, hb, hml, hown, hw⟩ (c_M_hostMay l  (by assumption)) (cwV 1 hw (gd_V (gwd_6 (List.mem_of_getElem? (i := 37) rfl)) (gwd_6 (List.mem_of_getElem? (i := 38) rfl)) (gwd_9 (List.mem_of_getElem? (i := 23) rfl)) (gwd_0 (List.mem_of_getElem? (i := 3) rfl)) (gwd_6 (List.mem_of_getElem? (i := 39) rfl))) rfl rfl rfl (by decide +kernel) ⟨Nat.le_of_ble_eq_true rfl, Nat.le_of_ble_eq_true rfl⟩) (gPre.V (n := (11, 0, 0)) hK hH (by first | exact ⟨rfl, rfl⟩ | exact ⟨by assumption, rfl⟩ | exact ⟨by assumption, by assumption⟩ | exact ⟨by omega, rfl⟩ | exact ⟨by omega, by omega⟩ | exact ⟨by decide, rfl⟩) rfl rfl) rfl rfl hl.1 rfl (lv_room (Nat.le_of_ble_eq_true rfl)) dM_look_16 ⟨Nat.zero_le _, Nat.zero_le _⟩) hS (fun H locs hH hS => ?_)
    refine s_ifeq hx hb dM_look_19 rfl (fun h_2 => ?_) (fun h_2 => ?_)
    · skip
      refine lv_iconst (v := 0) hx hb dM_look_26 (by decide) ?_
      refine m_zast hx hb hK hH hS (by first | exact ⟨rfl, rfl⟩ | exact ⟨by assumption, rfl⟩ | exact ⟨by assumption, by assumption⟩ | exact ⟨by omega, rfl⟩ | exact ⟨by omega, by omega⟩ | exact ⟨by decide, rfl⟩) rfl _ (by first | rfl | assumption) (show _ < 24 from by first | assumption | decide | omega) (by decide) (by first | exact Or.inl rfl | exact Or.inr rfl | exact bz_01 _ | assumption) rfl dM_look_27 (fun H locs hH hS => ?_)
      exact r_v hx hb hr hlk hK hH hS dM_look_28 (by simp [mLook, bz, h_1, h_2])
    · skip
      refine lv_iconst (v := 1) hx hb dM_look_22 (by decide) ?_
      refine lv_goto hx hb dM_look_23 rfl ?_
      refine m_zast hx hb hK hH hS (by first | exact ⟨rfl, rfl⟩ | exact ⟨by assumption, rfl⟩ | exact ⟨by assumption, by assumption⟩ | exact ⟨by omega, rfl⟩ | exact ⟨by omega, by omega⟩ | exact ⟨by decide, rfl⟩) rfl _ (by first | rfl | assumption) (show _ < 24 from by first | assumption | decide | omega) (by decide) (by first | exact Or.inl rfl | exact Or.inr rfl | exact bz_01 _ | assumption) rfl dM_look_27 (fun H locs hH hS => ?_)
      exact r_v hx hb hr hlk hK hH hS dM_look_28 (by simp [mLook, bz, h_1, h_2])
set_option maxHeartbeats 4000000 in
set_option maxRecDepth 100000 in
theorem c_M_holder (l : Launch) {D : va_G} {c : Nat → ClassId} {sz : Nat} {ad : gN → Nat} {k : Nat} {I J : gI} {P : gP} {LG : Option Nat} {LP : Option (Nat × Nat)} {q : Nat} (hq : q < 24) : Met l yM_holder wM_holder { frames := 0, cells := 0, slots := 0, locals := 0 } (gPre D c sz [.ref (ad (11, 0, 0)), .int (nI q)] (ad, k, I, J, P, LG, LP)) (va_Qi (fun r u => r = mHolder J q ∧ u = (ad, k, I, J, P, LG, LP)) (gB D c sz) (gA sz)) 0 0 (gA sz) := by
  refine Met.ofW (cc := cM_holder) (maxL := 2) (ret := (some .int)) (by decide) rfl ?_
  intro p e s m args below meth cd s₁ B hml hv
  obtain ⟨rfl, hK, hH⟩ := hv
  have hx := B.exec
  have hb := B.bytes
  have hr := B.returns
  have hts := atoms_spec (ws := wM_holder) B.pre
  have hw : ∀ w ∈ gWd, w.before _ s = true := fun w h => hts w (List.mem_cons_of_mem _ h)
  have hown : s.vm.findClass RM = some m.cls := findClass_of_methodNamed B.named
  have hlk := B.notSynchronized
  have hS : va_S (gA sz) s.heap s.heap [] := va_S.rf
  have hH : gW D c sz ad k I J P LG LP s.heap := hH
  have hl := lv_entry ([.ref (ad (11, 0, 0)), .int (nI q)]) (n := 2) (Nat.le_of_ble_eq_true rfl)
  rw [lg_entry_eq]
  generalize (lg_sl ([.ref (ad (11, 0, 0)), .int (nI q)]) ++ List.replicate (2 - (lg_sl ([.ref (ad (11, 0, 0)), .int (nI q)])).length) Slot.unset).toArray = ls at hl ⊢
  have hl : lv_has ls 2 [(0, .ref (ad (11, 0, 0))), (1, .int (nI q))] := hl
  refine lv_aload_n hx hb dM_holder_0 rfl (lv_at hl 0 rfl) ?_
  refine s_get hx hb hw inM hown hK hH 3 (by decide) (hw _ (gwd_5 (List.mem_of_getElem? (i := 43) rfl))) (by first | exact ⟨rfl, rfl⟩ | exact ⟨by assumption, rfl⟩ | exact ⟨by assumption, by assumption⟩ | exact ⟨by omega, rfl⟩ | exact ⟨by omega, by omega⟩ | exact ⟨by decide, rfl⟩) rfl rfl rfl rfl dM_holder_1 ?_
  refine lv_iload_n hx hb dM_holder_4 rfl (lv_at hl 1 rfl) ?_
  refine m_iald hx hb hK hH (by first | exact ⟨rfl, rfl⟩ | exact ⟨by assumption, rfl⟩ | exact ⟨by assumption, by assumption⟩ | exact ⟨by omega, rfl⟩ | exact ⟨by omega, by omega⟩ | exact ⟨by decide, rfl⟩) rfl _ (by first | rfl | assumption) (show _ < 24 from by first | assumption | decide | omega) (by decide) dM_holder_5 ?_
  refine lv_if_le hx hb dM_holder_6 rfl (fun h_1 => ?_) (fun h_1 => ?_)
  · skip
    refine lv_aload_n hx hb dM_holder_18 rfl (lv_at hl 0 rfl) ?_
    refine s_get hx hb hw inM hown hK hH 1 (by decide) (hw _ (gwd_5 (List.mem_of_getElem? (i := 41) rfl))) (by first | exact ⟨rfl, rfl⟩ | exact ⟨by assumption, rfl⟩ | exact ⟨by assumption, by assumption⟩ | exact ⟨by omega, rfl⟩ | exact ⟨by omega, by omega⟩ | exact ⟨by decide, rfl⟩) rfl rfl rfl rfl dM_holder_19 ?_
    refine lv_iload_n hx hb dM_holder_22 rfl (lv_at hl 1 rfl) ?_
    refine m_iald hx hb hK hH (by first | exact ⟨rfl, rfl⟩ | exact ⟨by assumption, rfl⟩ | exact ⟨by assumption, by assumption⟩ | exact ⟨by omega, rfl⟩ | exact ⟨by omega, by omega⟩ | exact ⟨by decide, rfl⟩) rfl _ (by first | rfl | assumption) (show _ < 24 from by first | assumption | decide | omega) (by decide) dM_holder_23 ?_
    refine lv_iconst (v := 1) hx hb dM_holder_24 (by decide) ?_
    refine lv_icmp_lt hx hb dM_holder_25 rfl (fun h_2 => ?_) (fun h_2 => ?_)
    · skip
      refine lv_iconst (v := 0) hx hb dM_holder_48 (by decide) ?_
      exact r_i hx hb hr hlk hK hH hS dM_holder_49 (⟨by simp [mHolder, h_1, h_2], rfl⟩)
    · skip
      refine lv_aload_n hx hb dM_holder_28 rfl (lv_at hl 0 rfl) ?_
      refine s_get hx hb hw inM hown hK hH 1 (by decide) (hw _ (gwd_5 (List.mem_of_getElem? (i := 41) rfl))) (by first | exact ⟨rfl, rfl⟩ | exact ⟨by assumption, rfl⟩ | exact ⟨by assumption, by assumption⟩ | exact ⟨by omega, rfl⟩ | exact ⟨by omega, by omega⟩ | exact ⟨by decide, rfl⟩) rfl rfl rfl rfl dM_holder_29 ?_
      refine lv_iload_n hx hb dM_holder_32 rfl (lv_at hl 1 rfl) ?_
      refine m_iald hx hb hK hH (by first | exact ⟨rfl, rfl⟩ | exact ⟨by assumption, rfl⟩ | exact ⟨by assumption, by assumption⟩ | exact ⟨by omega, rfl⟩ | exact ⟨by omega, by omega⟩ | exact ⟨by decide, rfl⟩) rfl _ (by first | rfl | assumption) (show _ < 24 from by first | assumption | decide | omega) (by decide) dM_holder_33 ?_
      refine lv_bipush (v := 6) hx hb dM_holder_34 (by decide) ?_
      refine lv_icmp_gt hx hb dM_holder_36 rfl (fun h_3 => ?_) (fun h_3 => ?_)
      · skip
        refine lv_iconst (v := 0) hx hb dM_holder_48 (by decide) ?_
        exact r_i hx hb hr hlk hK hH hS dM_holder_49 (⟨by simp [mHolder, h_1, h_2, h_3], rfl⟩)
      · skip
        refine lv_aload_n hx hb dM_holder_39 rfl (lv_at hl 0 rfl) ?_
        refine s_get hx hb hw inM hown hK hH 1 (by decide) (hw _ (gwd_5 (List.mem_of_getElem? (i := 41) rfl))) (by first | exact ⟨rfl, rfl⟩ | exact ⟨by assumption, rfl⟩ | exact ⟨by assumption, by assumption⟩ | exact ⟨by omega, rfl⟩ | exact ⟨by omega, by omega⟩ | exact ⟨by decide, rfl⟩) rfl rfl rfl rfl dM_holder_40 ?_
        refine lv_iload_n hx hb dM_holder_43 rfl (lv_at hl 1 rfl) ?_
        refine m_iald hx hb hK hH (by first | exact ⟨rfl, rfl⟩ | exact ⟨by assumption, rfl⟩ | exact ⟨by assumption, by assumption⟩ | exact ⟨by omega, rfl⟩ | exact ⟨by omega, by omega⟩ | exact ⟨by decide, rfl⟩) rfl _ (by first | rfl | assumption) (show _ < 24 from by first | assumption | decide | omega) (by decide) dM_holder_44 ?_
        refine lv_goto hx hb dM_holder_45 rfl ?_
        exact r_i hx hb hr hlk hK hH hS dM_holder_49 (⟨by simp [mHolder, h_1, h_2, h_3], rfl⟩)
  · skip
    refine lv_aload_n hx hb dM_holder_9 rfl (lv_at hl 0 rfl) ?_
    refine s_get hx hb hw inM hown hK hH 3 (by decide) (hw _ (gwd_5 (List.mem_of_getElem? (i := 43) rfl))) (by first | exact ⟨rfl, rfl⟩ | exact ⟨by assumption, rfl⟩ | exact ⟨by assumption, by assumption⟩ | exact ⟨by omega, rfl⟩ | exact ⟨by omega, by omega⟩ | exact ⟨by decide, rfl⟩) rfl rfl rfl rfl dM_holder_10 ?_
    refine lv_iload_n hx hb dM_holder_13 rfl (lv_at hl 1 rfl) ?_
    refine m_iald hx hb hK hH (by first | exact ⟨rfl, rfl⟩ | exact ⟨by assumption, rfl⟩ | exact ⟨by assumption, by assumption⟩ | exact ⟨by omega, rfl⟩ | exact ⟨by omega, by omega⟩ | exact ⟨by decide, rfl⟩) rfl _ (by first | rfl | assumption) (show _ < 24 from by first | assumption | decide | omega) (by decide) dM_holder_14 ?_
    refine lv_goto hx hb dM_holder_15 rfl ?_
    exact r_i hx hb hr hlk hK hH hS dM_holder_49 (⟨by simp [mHolder, h_1], rfl⟩)
set_option maxHeartbeats 4000000 in
set_option maxRecDepth 100000 in
theorem c_M_held (l : Launch) {D : va_G} {c : Nat → ClassId} {sz : Nat} {ad : gN → Nat} {k : Nat} {I J : gI} {P : gP} {LG : Option Nat} {LP : Option (Nat × Nat)} {G a : Int32}  : Met l yM_held wM_held { frames := 1, cells := 0, slots := 0, locals := 21 } (gPre D c sz [.ref (ad (11, 0, 0)), .int G, .int a] (ad, k, I, J, P, LG, LP)) (va_Qi (fun r u => r = mHeld J G a ∧ u = (ad, k, I, J, P, LG, LP)) (gB D c sz) (gA sz)) 0 0 (gA sz) := by
  refine Met.ofW (cc := cM_held) (maxL := 4) (ret := (some .int)) (by decide) rfl ?_
  intro p e s m args below meth cd s₁ B hml hv
  obtain ⟨rfl, hK, hH⟩ := hv
  have hx := B.exec
  have hb := B.bytes
  have hr := B.returns
  have hts := atoms_spec (ws := wM_held) B.pre
  have hw : ∀ w ∈ gWd, w.before _ s = true := fun w h => hts w (List.mem_cons_of_mem _ h)
  have hown : s.vm.findClass RM = some m.cls := findClass_of_methodNamed B.named
  have hlk := B.notSynchronized
  have hS : va_S (gA sz) s.heap s.heap [] := va_S.rf
  have hH : gW D c sz ad k I J P LG LP s.heap := hH
  have hl := lv_entry ([.ref (ad (11, 0, 0)), .int G, .int a]) (n := 4) (Nat.le_of_ble_eq_true rfl)
  rw [lg_entry_eq]
  generalize (lg_sl ([.ref (ad (11, 0, 0)), .int G, .int a]) ++ List.replicate (4 - (lg_sl ([.ref (ad (11, 0, 0)), .int G, .int a])).length) Slot.unset).toArray = ls at hl ⊢
  have hl : lv_has ls 4 [(0, .ref (ad (11, 0, 0))), (1, .int G), (2, .int a)] := hl
  have key : ∀ (n i : Nat), i + n = 24 → findF (fun p => decide (mIs J G a p)) n i = mHeld J G a → ∀ ls : Array Slot, lv_has ls 4 [(3, .int (nI i)), (0, .ref (ad (11, 0, 0))), (1, .int G), (2, .int a)] → ∀ (H : Heap) (locs : List Loc), gW D c sz ad k I J P LG LP H → va_S (gA sz) s.heap H locs → W p l e (headSpec wM_held { frames := 1, cells := 0, slots := 0, locals := 21 }).room s m ([.ref (ad (11, 0, 0)), .int G, .int a] : List Value).toArray below meth cd H locs 0 0 (MQ below (va_Qi (fun r u => r = mHeld J G a ∧ u = (ad, k, I, J, P, LG, LP)) (gB D c sz) (gA sz)) ([.ref (ad (11, 0, 0)), .int G, .int a] : List Value).toArray s 0 0 (gA sz)) (F0 m 2 ls []) := by
    intro n
    induction n with
    | zero =>
      intro i hi hst ls hl H locs hH hS
      refine lv_iload_n hx hb dM_held_2 rfl (lv_at hl 0 rfl) ?_
      refine lv_bipush (v := 24) hx hb dM_held_3 (by decide) ?_
      refine lv_icmp_ge hx hb dM_held_5 rfl (fun h_1 => ?_) (fun h_1 => ?_)
      · skip
        refine lv_iconst (v := -1) hx hb dM_held_35 (by decide) ?_
        exact r_i hx hb hr hlk hK hH hS dM_held_36 (⟨hst, rfl⟩)
      · exact absurd (show (24 : Int32) ≤ nI i from nI_le (a := 24) (by omega) (by omega)) h_1
    | succ n ih =>
      intro i hi hst ls hl H locs hH hS
      refine lv_iload_n hx hb dM_held_2 rfl (lv_at hl 0 rfl) ?_
      refine lv_bipush (v := 24) hx hb dM_held_3 (by decide) ?_
      refine lv_icmp_ge hx hb dM_held_5 rfl (fun h_2 => ?_) (fun h_2 => ?_)
      · exact absurd h_2 (nI_ge (b := 24) (show i < 24 by omega) (by decide))
      · skip
        refine lv_aload_n hx hb dM_held_8 rfl (lv_at hl 1 rfl) ?_
        refine lv_iload_n hx hb dM_held_9 rfl (lv_at hl 0 rfl) ?_
        refine s_ciE (va_runV (As := [.int _]) (rest := []) ⟨hx, hb, hml, hown, hw⟩ (c_M_holder l  (by omega)) (cwV 1 hw (gd_V (gwd_7 (List.mem_of_getElem? (i := 30) rfl)) (gwd_7 (List.mem_of_getElem? (i := 31) rfl)) (gwd_9 (List.mem_of_getElem? (i := 31) rfl)) (gwd_0 (List.mem_of_getElem? (i := 3) rfl)) (gwd_7 (List.mem_of_getElem? (i := 32) rfl))) rfl rfl rfl (by decide +kernel) ⟨Nat.le_of_ble_eq_true rfl, Nat.le_of_ble_eq_true rfl⟩) (gPre.V (n := (11, 0, 0)) hK hH (by first | exact ⟨rfl, rfl⟩ | exact ⟨by assumption, rfl⟩ | exact ⟨by assumption, by assumption⟩ | exact ⟨by omega, rfl⟩ | exact ⟨by omega, by omega⟩ | exact ⟨by decide, rfl⟩) rfl rfl) rfl rfl hl.1 rfl (lv_room (Nat.le_of_ble_eq_true rfl)) dM_held_10 ⟨Nat.zero_le _, Nat.zero_le _⟩) hS (fun H locs hH hS => ?_)
        refine lv_iload_n hx hb dM_held_13 rfl (lv_at hl 2 rfl) ?_
        refine lv_icmp_ne hx hb dM_held_14 rfl (fun h_3 => ?_) (fun h_3 => ?_)
        · skip
          refine lv_iinc (k := 0) (v := nI (i + 1)) hx hb dM_held_29 hl rfl (by rw [nI_succ]; rfl) (by decide) rfl (fun ls hl => ?_)
          have hl : lv_has ls 4 [(3, .int _), (0, .ref _), (1, .int _), (2, .int _)] := hl
          refine lv_goto hx hb dM_held_32 rfl ?_
          exact ih (i + 1) (by omega) (by rw [← hst]; simp [findF, mIs, h_3]) ls (lv_sub hl [0, 1, 2, 3] rfl) H locs hH hS
        · skip
          refine lv_aload_n hx hb dM_held_17 rfl (lv_at hl 1 rfl) ?_
          refine s_get hx hb hw inM hown hK hH 4 (by decide) (hw _ (gwd_5 (List.mem_of_getElem? (i := 44) rfl))) (by first | exact ⟨rfl, rfl⟩ | exact ⟨by assumption, rfl⟩ | exact ⟨by assumption, by assumption⟩ | exact ⟨by omega, rfl⟩ | exact ⟨by omega, by omega⟩ | exact ⟨by decide, rfl⟩) rfl rfl rfl rfl dM_held_18 ?_
          refine lv_iload_n hx hb dM_held_21 rfl (lv_at hl 0 rfl) ?_
          refine m_iald hx hb hK hH (by first | exact ⟨rfl, rfl⟩ | exact ⟨by assumption, rfl⟩ | exact ⟨by assumption, by assumption⟩ | exact ⟨by omega, rfl⟩ | exact ⟨by omega, by omega⟩ | exact ⟨by decide, rfl⟩) rfl _ (by first | rfl | assumption) (show _ < 24 from by first | assumption | decide | omega) (by decide) dM_held_22 ?_
          refine lv_iload_n hx hb dM_held_23 rfl (lv_at hl 3 rfl) ?_
          refine lv_icmp_ne hx hb dM_held_24 rfl (fun h_4 => ?_) (fun h_4 => ?_)
          · skip
            refine lv_iinc (k := 0) (v := nI (i + 1)) hx hb dM_held_29 hl rfl (by rw [nI_succ]; rfl) (by decide) rfl (fun ls hl => ?_)
            have hl : lv_has ls 4 [(3, .int _), (0, .ref _), (1, .int _), (2, .int _)] := hl
            refine lv_goto hx hb dM_held_32 rfl ?_
            exact ih (i + 1) (by omega) (by rw [← hst]; simp [findF, mIs, h_3, h_4]) ls (lv_sub hl [0, 1, 2, 3] rfl) H locs hH hS
          · skip
            refine lv_iload_n hx hb dM_held_27 rfl (lv_at hl 0 rfl) ?_
            exact r_i hx hb hr hlk hK hH hS dM_held_28 (⟨by rw [← hst]; simp [findF, mIs, h_3, h_4], rfl⟩)
  refine lv_iconst (v := 0) hx hb dM_held_0 (by decide) ?_
  refine lv_istore_n hx hb dM_held_1 rfl hl (by decide) rfl (fun ls hl => ?_)
  have hl : lv_has ls 4 [(3, .int _), (0, .ref _), (1, .int _), (2, .int _)] := hl
  exact key 24 0 (by omega) rfl ls (lv_sub hl [0, 1, 2, 3] rfl) s.heap [] hH hS
theorem mSome_s {J : gI} {G e2 : Int32} {z i q : Nat} {x : Int32} (h : (mSome J G e2 z i q = true ∧ x = 1) ∨ (¬ mSome J G e2 z i q = true ∧ mBlk J G z i q ∧ x = 1) ∨ (¬ mSome J G e2 z i q = true ∧ ¬ mBlk J G z i q ∧ x = 0)) : x = bz (mSome J G e2 z i (q + 1) = true) := by
  have e : mSome J G e2 z i (q + 1) = (mSome J G e2 z i q || decide (mBlk J G z i q)) := by simp only [mSome, anyB, Bool.or_assoc]
  rcases h with ⟨h1, rfl⟩ | ⟨h1, h2, rfl⟩ | ⟨h1, h2, rfl⟩
  · exact (bz_t (by rw [e, h1]; rfl)).symm
  · exact (bz_t (by rw [e]; simp [h2])).symm
  · refine (bz_f (fun q => ?_)).symm
    rw [e, Bool.or_eq_true] at q
    rcases q with q | q
    · exact h1 q
    · exact h2 (of_decide_eq_true q)
set_option maxHeartbeats 4000000 in
set_option maxRecDepth 100000 in
theorem c_M_count (l : Launch) {D : va_G} {c : Nat → ClassId} {sz : Nat} {ad : gN → Nat} {k : Nat} {I J : gI} {P : gP} {LG : Option Nat} {LP : Option (Nat × Nat)} {G e2 : Int32}  : Met l yM_count wM_count { frames := 1, cells := 0, slots := 0, locals := 21 } (gPre D c sz [.ref (ad (11, 0, 0)), .int G, .int e2] (ad, k, I, J, P, LG, LP)) (va_Qi (fun r u => r = mCnt J G e2 ∧ u = (ad, k, I, J, P, LG, LP)) (gB D c sz) (gA sz)) 0 0 (gA sz) := by
  refine Met.ofW (cc := cM_count) (maxL := 8) (ret := (some .int)) (by decide) rfl ?_
  intro p e s m args below meth cd s₁ B hml hv
  obtain ⟨rfl, hK, hH⟩ := hv
  have hx := B.exec
  have hb := B.bytes
  have hr := B.returns
  have hts := atoms_spec (ws := wM_count) B.pre
  have hw : ∀ w ∈ gWd, w.before _ s = true := fun w h => hts w (List.mem_cons_of_mem _ h)
  have hown : s.vm.findClass RM = some m.cls := findClass_of_methodNamed B.named
  have hlk := B.notSynchronized
  have hS : va_S (gA sz) s.heap s.heap [] := va_S.rf
  have hH : gW D c sz ad k I J P LG LP s.heap := hH
  have hl := lv_entry ([.ref (ad (11, 0, 0)), .int G, .int e2]) (n := 8) (Nat.le_of_ble_eq_true rfl)
  rw [lg_entry_eq]
  generalize (lg_sl ([.ref (ad (11, 0, 0)), .int G, .int e2]) ++ List.replicate (8 - (lg_sl ([.ref (ad (11, 0, 0)), .int G, .int e2])).length) Slot.unset).toArray = ls at hl ⊢
  have hl : lv_has ls 8 [(0, .ref (ad (11, 0, 0))), (1, .int G), (2, .int e2)] := hl
  have in3 : ∀ (z i a0 : Nat), (z = 4 ∨ z = 16) → i < 64 / z → (∀ ls : Array Slot, lv_has ls 8 [(6, .int (bz (mSome J G e2 z i 24 = true))), (5, .int (nI i)), (4, .int (nI z)), (3, .int (nI a0)), (0, .ref (ad (11, 0, 0))), (1, .int G), (2, .int e2)] → ∀ (H : Heap) (locs : List Loc), gW D c sz ad k I J P LG LP H → va_S (gA sz) s.heap H locs → W p l e (headSpec wM_count { frames := 1, cells := 0, slots := 0, locals := 21 }).room s m ([.ref (ad (11, 0, 0)), .int G, .int e2] : List Value).toArray below meth cd H locs 0 0 (MQ below (va_Qi (fun r u => r = mCnt J G e2 ∧ u = (ad, k, I, J, P, LG, LP)) (gB D c sz) (gA sz)) ([.ref (ad (11, 0, 0)), .int G, .int e2] : List Value).toArray s 0 0 (gA sz)) (F0 m 98 ls [])) → ∀ (n q : Nat) (x : Int32), q + n = 24 → x = bz (mSome J G e2 z i q = true) → ∀ ls : Array Slot, lv_has ls 8 [(7, .int (nI q)), (6, .int x), (5, .int (nI i)), (4, .int (nI z)), (3, .int (nI a0)), (0, .ref (ad (11, 0, 0))), (1, .int G), (2, .int e2)] → ∀ (H : Heap) (locs : List Loc), gW D c sz ad k I J P LG LP H → va_S (gA sz) s.heap H locs → W p l e (headSpec wM_count { frames := 1, cells := 0, slots := 0, locals := 21 }).room s m ([.ref (ad (11, 0, 0)), .int G, .int e2] : List Value).toArray below meth cd H locs 0 0 (MQ below (va_Qi (fun r u => r = mCnt J G e2 ∧ u = (ad, k, I, J, P, LG, LP)) (gB D c sz) (gA sz)) ([.ref (ad (11, 0, 0)), .int G, .int e2] : List Value).toArray s 0 0 (gA sz)) (F0 m 48 ls []) := by
    intro z i a0 hz hiz cont n
    have hzn : ¬ nI z = 0 := nI_ne0 (by omega) (by omega)
    induction n with
    | zero =>
      intro q x hq hx9 ls hl H locs hH hS
      rw [show q = 24 by omega] at hx9
      subst hx9
      refine lv_iload hx hb dM_count_48 (lv_at hl 0 rfl) ?_
      refine lv_bipush (v := 24) hx hb dM_count_50 (by decide) ?_
      refine lv_icmp_ge hx hb dM_count_52 rfl (fun h_1 => ?_) (fun h_1 => ?_)
      · skip
        exact cont ls (lv_sub hl [1, 2, 3, 4, 5, 6, 7] rfl) H locs hH hS
      · exact absurd (show (24 : Int32) ≤ nI q from nI_le (a := 24) (by omega) (by omega)) h_1
    | succ n ih =>
      intro q x hq hx9 ls hl H locs hH hS
      subst hx9
      refine lv_iload hx hb dM_count_48 (lv_at hl 0 rfl) ?_
      refine lv_bipush (v := 24) hx hb dM_count_50 (by decide) ?_
      refine lv_icmp_ge hx hb dM_count_52 rfl (fun h_2 => ?_) (fun h_2 => ?_)
      · exact absurd h_2 (nI_ge (b := 24) (show q < 24 by omega) (by decide))
      · skip
        refine lv_iload hx hb dM_count_55 (lv_at hl 1 rfl) ?_
        refine s_ifne hx hb dM_count_57 rfl (fun h_3 => ?_) (fun h_3 => ?_)
        · skip
          refine lv_iconst (v := 1) hx hb dM_count_85 (by decide) ?_
          refine lv_goto hx hb dM_count_86 rfl ?_
          refine lv_istore hx hb dM_count_90 hl (by decide) rfl (fun ls hl => ?_)
          have hl : lv_has ls 8 [(6, .int _), (7, .int _), (5, .int _), (4, .int _), (3, .int _), (0, .ref _), (1, .int _), (2, .int _)] := hl
          refine lv_iinc (k := 1) (v := nI (q + 1)) hx hb dM_count_92 hl rfl (by rw [nI_succ]; rfl) (by decide) rfl (fun ls hl => ?_)
          have hl : lv_has ls 8 [(7, .int _), (6, .int _), (5, .int _), (4, .int _), (3, .int _), (0, .ref _), (1, .int _), (2, .int _)] := hl
          refine lv_goto hx hb dM_count_95 rfl ?_
          exact ih (q + 1) _ (by omega) (mSome_s (by first | exact Or.inl ⟨h_3, rfl⟩ | exact Or.inr (Or.inl ⟨h_3, ⟨rfl, rfl⟩, rfl⟩) | exact Or.inr (Or.inr ⟨h_3, fun z => rfl z.1, rfl⟩) | exact Or.inr (Or.inr ⟨h_3, fun z => rfl z.2, rfl⟩))) ls (lv_sub hl [0, 1, 2, 3, 4, 5, 6, 7] rfl) H locs hH hS
        · skip
          refine lv_aload_n hx hb dM_count_60 rfl (lv_at hl 5 rfl) ?_
          refine lv_iload hx hb dM_count_61 (lv_at hl 0 rfl) ?_
          refine s_ciE (va_runV (As := [.int _]) (rest := []) ⟨hx, hb, hml, hown, hw⟩ (c_M_holder l  (by omega)) (cwV 1 hw (gd_V (gwd_7 (List.mem_of_getElem? (i := 30) rfl)) (gwd_7 (List.mem_of_getElem? (i := 31) rfl)) (gwd_9 (List.mem_of_getElem? (i := 31) rfl)) (gwd_0 (List.mem_of_getElem? (i := 3) rfl)) (gwd_7 (List.mem_of_getElem? (i := 32) rfl))) rfl rfl rfl (by decide +kernel) ⟨Nat.le_of_ble_eq_true rfl, Nat.le_of_ble_eq_true rfl⟩) (gPre.V (n := (11, 0, 0)) hK hH (by first | exact ⟨rfl, rfl⟩ | exact ⟨by assumption, rfl⟩ | exact ⟨by assumption, by assumption⟩ | exact ⟨by omega, rfl⟩ | exact ⟨by omega, by omega⟩ | exact ⟨by decide, rfl⟩) rfl rfl) rfl rfl hl.1 rfl (lv_room (Nat.le_of_ble_eq_true rfl)) dM_count_63 ⟨Nat.zero_le _, Nat.zero_le _⟩) hS (fun H locs hH hS => ?_)
          refine lv_iload_n hx hb dM_count_66 rfl (lv_at hl 6 rfl) ?_
          refine lv_icmp_ne hx hb dM_count_67 rfl (fun h_4 => ?_) (fun h_4 => ?_)
          · skip
            refine lv_iconst (v := 0) hx hb dM_count_89 (by decide) ?_
            refine lv_istore hx hb dM_count_90 hl (by decide) rfl (fun ls hl => ?_)
            have hl : lv_has ls 8 [(6, .int _), (7, .int _), (5, .int _), (4, .int _), (3, .int _), (0, .ref _), (1, .int _), (2, .int _)] := hl
            refine lv_iinc (k := 1) (v := nI (q + 1)) hx hb dM_count_92 hl rfl (by rw [nI_succ]; rfl) (by decide) rfl (fun ls hl => ?_)
            have hl : lv_has ls 8 [(7, .int _), (6, .int _), (5, .int _), (4, .int _), (3, .int _), (0, .ref _), (1, .int _), (2, .int _)] := hl
            refine lv_goto hx hb dM_count_95 rfl ?_
            exact ih (q + 1) _ (by omega) (mSome_s (by first | exact Or.inl ⟨h_3, rfl⟩ | exact Or.inr (Or.inl ⟨h_3, ⟨h_4, rfl⟩, rfl⟩) | exact Or.inr (Or.inr ⟨h_3, fun z => h_4 z.1, rfl⟩) | exact Or.inr (Or.inr ⟨h_3, fun z => rfl z.2, rfl⟩))) ls (lv_sub hl [0, 1, 2, 3, 4, 5, 6, 7] rfl) H locs hH hS
          · skip
            refine lv_aload_n hx hb dM_count_70 rfl (lv_at hl 5 rfl) ?_
            refine s_get hx hb hw inM hown hK hH 4 (by decide) (hw _ (gwd_5 (List.mem_of_getElem? (i := 44) rfl))) (by first | exact ⟨rfl, rfl⟩ | exact ⟨by assumption, rfl⟩ | exact ⟨by assumption, by assumption⟩ | exact ⟨by omega, rfl⟩ | exact ⟨by omega, by omega⟩ | exact ⟨by decide, rfl⟩) rfl rfl rfl rfl dM_count_71 ?_
            refine lv_iload hx hb dM_count_74 (lv_at hl 0 rfl) ?_
            refine m_iald hx hb hK hH (by first | exact ⟨rfl, rfl⟩ | exact ⟨by assumption, rfl⟩ | exact ⟨by assumption, by assumption⟩ | exact ⟨by omega, rfl⟩ | exact ⟨by omega, by omega⟩ | exact ⟨by decide, rfl⟩) rfl _ (by first | rfl | assumption) (show _ < 24 from by first | assumption | decide | omega) (by decide) dM_count_76 ?_
            refine lv_iload hx hb dM_count_77 (lv_at hl 3 rfl) ?_
            refine lv_idiv hx hb dM_count_79 hzn ?_
            refine lv_iload hx hb dM_count_80 (lv_at hl 2 rfl) ?_
            refine lv_icmp_ne hx hb dM_count_82 rfl (fun h_5 => ?_) (fun h_5 => ?_)
            · skip
              refine lv_iconst (v := 0) hx hb dM_count_89 (by decide) ?_
              refine lv_istore hx hb dM_count_90 hl (by decide) rfl (fun ls hl => ?_)
              have hl : lv_has ls 8 [(6, .int _), (7, .int _), (5, .int _), (4, .int _), (3, .int _), (0, .ref _), (1, .int _), (2, .int _)] := hl
              refine lv_iinc (k := 1) (v := nI (q + 1)) hx hb dM_count_92 hl rfl (by rw [nI_succ]; rfl) (by decide) rfl (fun ls hl => ?_)
              have hl : lv_has ls 8 [(7, .int _), (6, .int _), (5, .int _), (4, .int _), (3, .int _), (0, .ref _), (1, .int _), (2, .int _)] := hl
              refine lv_goto hx hb dM_count_95 rfl ?_
              exact ih (q + 1) _ (by omega) (mSome_s (by first | exact Or.inl ⟨h_3, rfl⟩ | exact Or.inr (Or.inl ⟨h_3, ⟨h_4, h_5⟩, rfl⟩) | exact Or.inr (Or.inr ⟨h_3, fun z => h_4 z.1, rfl⟩) | exact Or.inr (Or.inr ⟨h_3, fun z => h_5 z.2, rfl⟩))) ls (lv_sub hl [0, 1, 2, 3, 4, 5, 6, 7] rfl) H locs hH hS
            · skip
              refine lv_iconst (v := 1) hx hb dM_count_85 (by decide) ?_
              refine lv_goto hx hb dM_count_86 rfl ?_
              refine lv_istore hx hb dM_count_90 hl (by decide) rfl (fun ls hl => ?_)
              have hl : lv_has ls 8 [(6, .int _), (7, .int _), (5, .int _), (4, .int _), (3, .int _), (0, .ref _), (1, .int _), (2, .int _)] := hl
              refine lv_iinc (k := 1) (v := nI (q + 1)) hx hb dM_count_92 hl rfl (by rw [nI_succ]; rfl) (by decide) rfl (fun ls hl => ?_)
              have hl : lv_has ls 8 [(7, .int _), (6, .int _), (5, .int _), (4, .int _), (3, .int _), (0, .ref _), (1, .int _), (2, .int _)] := hl
              refine lv_goto hx hb dM_count_95 rfl ?_
              exact ih (q + 1) _ (by omega) (mSome_s (by first | exact Or.inl ⟨h_3, rfl⟩ | exact Or.inr (Or.inl ⟨h_3, ⟨h_4, h_5⟩, rfl⟩) | exact Or.inr (Or.inr ⟨h_3, fun z => h_4 z.1, rfl⟩) | exact Or.inr (Or.inr ⟨h_3, fun z => h_5 z.2, rfl⟩))) ls (lv_sub hl [0, 1, 2, 3, 4, 5, 6, 7] rfl) H locs hH hS
  have mid : ∀ (z a0 : Nat), (z = 4 ∨ z = 16) → (∀ ls : Array Slot, lv_has ls 8 [(4, .int (nI z)), (3, .int (nI (a0 + mCnt1 J G e2 z))), (0, .ref (ad (11, 0, 0))), (1, .int G), (2, .int e2)] → ∀ (H : Heap) (locs : List Loc), gW D c sz ad k I J P LG LP H → va_S (gA sz) s.heap H locs → W p l e (headSpec wM_count { frames := 1, cells := 0, slots := 0, locals := 21 }).room s m ([.ref (ad (11, 0, 0)), .int G, .int e2] : List Value).toArray below meth cd H locs 0 0 (MQ below (va_Qi (fun r u => r = mCnt J G e2 ∧ u = (ad, k, I, J, P, LG, LP)) (gB D c sz) (gA sz)) ([.ref (ad (11, 0, 0)), .int G, .int e2] : List Value).toArray s 0 0 (gA sz)) (F0 m 117 ls [])) → ∀ (n i a : Nat), i + n = 64 / z → a = a0 + cntB (fun i => mSome J G e2 z i 24) i → ∀ ls : Array Slot, lv_has ls 8 [(5, .int (nI i)), (4, .int (nI z)), (3, .int (nI a)), (0, .ref (ad (11, 0, 0))), (1, .int G), (2, .int e2)] → ∀ (H : Heap) (locs : List Loc), gW D c sz ad k I J P LG LP H → va_S (gA sz) s.heap H locs → W p l e (headSpec wM_count { frames := 1, cells := 0, slots := 0, locals := 21 }).room s m ([.ref (ad (11, 0, 0)), .int G, .int e2] : List Value).toArray below meth cd H locs 0 0 (MQ below (va_Qi (fun r u => r = mCnt J G e2 ∧ u = (ad, k, I, J, P, LG, LP)) (gB D c sz) (gA sz)) ([.ref (ad (11, 0, 0)), .int G, .int e2] : List Value).toArray s 0 0 (gA sz)) (F0 m 15 ls []) := by
    intro z a0 hz cont n
    have hzn : ¬ nI z = 0 := nI_ne0 (by omega) (by omega)
    have hzq : 64 / z ≤ 64 := Nat.div_le_self 64 z
    have h64 : (64 : Int32) / nI z = nI (64 / z) := pk_div (a := 64) (by decide) (by omega) (by omega)
    induction n with
    | zero =>
      intro i a hi ha ls hl H locs hH hS
      rw [show i = 64 / z by omega] at ha
      subst ha
      refine lv_iload hx hb dM_count_15 (lv_at hl 0 rfl) ?_
      refine lv_bipush (v := 64) hx hb dM_count_17 (by decide) ?_
      refine lv_iload hx hb dM_count_19 (lv_at hl 1 rfl) ?_
      refine lv_idiv hx hb dM_count_21 hzn ?_
      refine lv_icmp_ge hx hb dM_count_22 rfl (fun h_6 => ?_) (fun h_6 => ?_)
      · skip
        exact cont ls (lv_sub hl [1, 2, 3, 4, 5] rfl) H locs hH hS
      · exact absurd (by rw [h64]; exact nI_le (by omega) (by omega)) h_6
    | succ n ih =>
      intro i a hi ha ls hl H locs hH hS
      have fin : ∀ ls : Array Slot, lv_has ls 8 [(6, .int (bz (mSome J G e2 z i 24 = true))), (5, .int (nI i)), (4, .int (nI z)), (3, .int (nI a)), (0, .ref (ad (11, 0, 0))), (1, .int G), (2, .int e2)] → ∀ (H : Heap) (locs : List Loc), gW D c sz ad k I J P LG LP H → va_S (gA sz) s.heap H locs → W p l e (headSpec wM_count { frames := 1, cells := 0, slots := 0, locals := 21 }).room s m ([.ref (ad (11, 0, 0)), .int G, .int e2] : List Value).toArray below meth cd H locs 0 0 (MQ below (va_Qi (fun r u => r = mCnt J G e2 ∧ u = (ad, k, I, J, P, LG, LP)) (gB D c sz) (gA sz)) ([.ref (ad (11, 0, 0)), .int G, .int e2] : List Value).toArray s 0 0 (gA sz)) (F0 m 98 ls []) := by
        intro ls hl H locs hH hS
        refine lv_iload hx hb dM_count_98 (lv_at hl 0 rfl) ?_
        refine s_ifeq hx hb dM_count_100 rfl (fun h_7 => ?_) (fun h_7 => ?_)
        · skip
          refine lv_iload_n hx hb dM_count_109 rfl (lv_at hl 3 rfl) ?_
          refine lv_istore_n hx hb dM_count_110 rfl hl (by decide) rfl (fun ls hl => ?_)
          have hl : lv_has ls 8 [(3, .int _), (6, .int _), (5, .int _), (4, .int _), (0, .ref _), (1, .int _), (2, .int _)] := hl
          refine lv_iinc (k := 2) (v := nI (i + 1)) hx hb dM_count_111 hl rfl (by rw [nI_succ]; rfl) (by decide) rfl (fun ls hl => ?_)
          have hl : lv_has ls 8 [(5, .int _), (3, .int _), (6, .int _), (4, .int _), (0, .ref _), (1, .int _), (2, .int _)] := hl
          refine lv_goto hx hb dM_count_114 rfl ?_
          exact ih (i + 1) _ (by omega) (by simp [cntB, ha, Nat.add_assoc, h_7]) ls (lv_sub hl [0, 3, 1, 4, 5, 6] rfl) H locs hH hS
        · skip
          refine lv_iload_n hx hb dM_count_103 rfl (lv_at hl 3 rfl) ?_
          refine lv_iconst (v := 1) hx hb dM_count_104 (by decide) ?_
          refine lv_iadd hx hb dM_count_105 ?_
          rw [nI_1]
          refine lv_goto hx hb dM_count_106 rfl ?_
          refine lv_istore_n hx hb dM_count_110 rfl hl (by decide) rfl (fun ls hl => ?_)
          have hl : lv_has ls 8 [(3, .int _), (6, .int _), (5, .int _), (4, .int _), (0, .ref _), (1, .int _), (2, .int _)] := hl
          refine lv_iinc (k := 2) (v := nI (i + 1)) hx hb dM_count_111 hl rfl (by rw [nI_succ]; rfl) (by decide) rfl (fun ls hl => ?_)
          have hl : lv_has ls 8 [(5, .int _), (3, .int _), (6, .int _), (4, .int _), (0, .ref _), (1, .int _), (2, .int _)] := hl
          refine lv_goto hx hb dM_count_114 rfl ?_
          exact ih (i + 1) _ (by omega) (by simp [cntB, ha, Nat.add_assoc, h_7]) ls (lv_sub hl [0, 3, 1, 4, 5, 6] rfl) H locs hH hS
      refine lv_iload hx hb dM_count_15 (lv_at hl 0 rfl) ?_
      refine lv_bipush (v := 64) hx hb dM_count_17 (by decide) ?_
      refine lv_iload hx hb dM_count_19 (lv_at hl 1 rfl) ?_
      refine lv_idiv hx hb dM_count_21 hzn ?_
      refine lv_icmp_ge hx hb dM_count_22 rfl (fun h_8 => ?_) (fun h_8 => ?_)
      · exact absurd (by rw [← h64]; exact h_8) (nI_ge (show i < 64 / z by omega) (by omega))
      · skip
        refine lv_iload_n hx hb dM_count_25 rfl (lv_at hl 5 rfl) ?_
        refine lv_if_lt hx hb dM_count_26 rfl (fun h_9 => ?_) (fun h_9 => ?_)
        · skip
          refine lv_iconst (v := 0) hx hb dM_count_42 (by decide) ?_
          refine lv_istore hx hb dM_count_43 hl (by decide) rfl (fun ls hl => ?_)
          have hl : lv_has ls 8 [(6, .int _), (5, .int _), (4, .int _), (3, .int _), (0, .ref _), (1, .int _), (2, .int _)] := hl
          refine lv_iconst (v := 0) hx hb dM_count_45 (by decide) ?_
          refine lv_istore hx hb dM_count_46 hl (by decide) rfl (fun ls hl => ?_)
          have hl : lv_has ls 8 [(7, .int _), (6, .int _), (5, .int _), (4, .int _), (3, .int _), (0, .ref _), (1, .int _), (2, .int _)] := hl
          exact in3 z i a hz (by omega) fin 24 0 _ (by omega) (by simp [bz, mSome, anyB, h_9]) ls (lv_sub hl [0, 1, 2, 3, 4, 5, 6, 7] rfl) H locs hH hS
        · skip
          refine lv_iload_n hx hb dM_count_29 rfl (lv_at hl 5 rfl) ?_
          refine lv_iload hx hb dM_count_30 (lv_at hl 1 rfl) ?_
          refine lv_idiv hx hb dM_count_32 hzn ?_
          refine lv_iload hx hb dM_count_33 (lv_at hl 0 rfl) ?_
          refine lv_icmp_ne hx hb dM_count_35 rfl (fun h_10 => ?_) (fun h_10 => ?_)
          · skip
            refine lv_iconst (v := 0) hx hb dM_count_42 (by decide) ?_
            refine lv_istore hx hb dM_count_43 hl (by decide) rfl (fun ls hl => ?_)
            have hl : lv_has ls 8 [(6, .int _), (5, .int _), (4, .int _), (3, .int _), (0, .ref _), (1, .int _), (2, .int _)] := hl
            refine lv_iconst (v := 0) hx hb dM_count_45 (by decide) ?_
            refine lv_istore hx hb dM_count_46 hl (by decide) rfl (fun ls hl => ?_)
            have hl : lv_has ls 8 [(7, .int _), (6, .int _), (5, .int _), (4, .int _), (3, .int _), (0, .ref _), (1, .int _), (2, .int _)] := hl
            exact in3 z i a hz (by omega) fin 24 0 _ (by omega) (by simp [bz, mSome, anyB, h_9, h_10]) ls (lv_sub hl [0, 1, 2, 3, 4, 5, 6, 7] rfl) H locs hH hS
          · skip
            refine lv_iconst (v := 1) hx hb dM_count_38 (by decide) ?_
            refine lv_goto hx hb dM_count_39 rfl ?_
            refine lv_istore hx hb dM_count_43 hl (by decide) rfl (fun ls hl => ?_)
            have hl : lv_has ls 8 [(6, .int _), (5, .int _), (4, .int _), (3, .int _), (0, .ref _), (1, .int _), (2, .int _)] := hl
            refine lv_iconst (v := 0) hx hb dM_count_45 (by decide) ?_
            refine lv_istore hx hb dM_count_46 hl (by decide) rfl (fun ls hl => ?_)
            have hl : lv_has ls 8 [(7, .int _), (6, .int _), (5, .int _), (4, .int _), (3, .int _), (0, .ref _), (1, .int _), (2, .int _)] := hl
            exact in3 z i a hz (by omega) fin 24 0 _ (by omega) (by simp [bz, mSome, anyB, h_9, h_10]) ls (lv_sub hl [0, 1, 2, 3, 4, 5, 6, 7] rfl) H locs hH hS
  refine lv_iconst (v := 0) hx hb dM_count_0 (by decide) ?_
  refine lv_istore_n hx hb dM_count_1 rfl hl (by decide) rfl (fun ls hl => ?_)
  have hl : lv_has ls 8 [(3, .int _), (0, .ref _), (1, .int _), (2, .int _)] := hl
  refine lv_iconst (v := 4) hx hb dM_count_2 (by decide) ?_
  refine lv_istore hx hb dM_count_3 hl (by decide) rfl (fun ls hl => ?_)
  have hl : lv_has ls 8 [(4, .int _), (3, .int _), (0, .ref _), (1, .int _), (2, .int _)] := hl
  refine lv_iload hx hb dM_count_5 (lv_at hl 0 rfl) ?_
  refine lv_bipush (v := 16) hx hb dM_count_7 (by decide) ?_
  refine lv_icmp_gt hx hb dM_count_9 rfl (fun h_11 => ?_) (fun h_11 => ?_)
  · exact absurd h_11 (by decide)
  · skip
    refine lv_iconst (v := 0) hx hb dM_count_12 (by decide) ?_
    refine lv_istore hx hb dM_count_13 hl (by decide) rfl (fun ls hl => ?_)
    have hl : lv_has ls 8 [(5, .int _), (4, .int _), (3, .int _), (0, .ref _), (1, .int _), (2, .int _)] := hl
    refine mid 4 0 (by decide) (fun ls hl H locs hH hS => ?_) (64 / 4) 0 _ (by omega) (by rfl) ls (lv_sub hl [0, 1, 2, 3, 4, 5] rfl) _ _ hH hS
    refine lv_iinc (k := 0) (v := 16) hx hb dM_count_117 hl rfl (by decide) (by decide) rfl (fun ls hl => ?_)
    have hl : lv_has ls 8 [(4, .int _), (3, .int _), (0, .ref _), (1, .int _), (2, .int _)] := hl
    refine lv_goto hx hb dM_count_120 rfl ?_
    refine lv_iload hx hb dM_count_5 (lv_at hl 0 rfl) ?_
    refine lv_bipush (v := 16) hx hb dM_count_7 (by decide) ?_
    refine lv_icmp_gt hx hb dM_count_9 rfl (fun h_12 => ?_) (fun h_12 => ?_)
    · exact absurd h_12 (by decide)
    · skip
      refine lv_iconst (v := 0) hx hb dM_count_12 (by decide) ?_
      refine lv_istore hx hb dM_count_13 hl (by decide) rfl (fun ls hl => ?_)
      have hl : lv_has ls 8 [(5, .int _), (4, .int _), (3, .int _), (0, .ref _), (1, .int _), (2, .int _)] := hl
      refine mid 16 (0 + mCnt1 J G e2 4) (by decide) (fun ls hl H locs hH hS => ?_) (64 / 16) 0 _ (by omega) (by rfl) ls (lv_sub hl [0, 1, 2, 3, 4, 5] rfl) _ _ hH hS
      refine lv_iinc (k := 0) (v := 28) hx hb dM_count_117 hl rfl (by decide) (by decide) rfl (fun ls hl => ?_)
      have hl : lv_has ls 8 [(4, .int _), (3, .int _), (0, .ref _), (1, .int _), (2, .int _)] := hl
      refine lv_goto hx hb dM_count_120 rfl ?_
      refine lv_iload hx hb dM_count_5 (lv_at hl 0 rfl) ?_
      refine lv_bipush (v := 16) hx hb dM_count_7 (by decide) ?_
      refine lv_icmp_gt hx hb dM_count_9 rfl (fun h_13 => ?_) (fun h_13 => ?_)
      · skip
        refine lv_iload_n hx hb dM_count_123 rfl (lv_at hl 1 rfl) ?_
        exact r_i hx hb hr hlk hK hH hS dM_count_124 (⟨by rw [mCnt, Nat.zero_add], rfl⟩)
      · exact absurd h_13 (by decide)
set_option maxHeartbeats 4000000 in
set_option maxRecDepth 100000 in
theorem c_M_rest (l : Launch) {D : va_G} {c : Nat → ClassId} {sz : Nat} {ad : gN → Nat} {k : Nat} {I J : gI} {P : gP} {LG : Option Nat} {LP : Option (Nat × Nat)} {G : Int32}  : Met l yM_rest wM_rest { frames := 2, cells := 0, slots := 0, locals := 48 } (gPre D c sz [.ref (ad (11, 0, 0)), .int G] (ad, k, I, J, P, LG, LP)) (va_Qi (fun r u => r = mRest J G ∧ u = (ad, k, I, J, P, LG, LP)) (gB D c sz) (gA sz)) 0 0 (gA sz) := by
  refine Met.ofW (cc := cM_rest) (maxL := 4) (ret := (some .int)) (by decide) rfl ?_
  intro p e s m args below meth cd s₁ B hml hv
  obtain ⟨rfl, hK, hH⟩ := hv
  have hx := B.exec
  have hb := B.bytes
  have hr := B.returns
  have hts := atoms_spec (ws := wM_rest) B.pre
  have hw : ∀ w ∈ gWd, w.before _ s = true := fun w h => hts w (List.mem_cons_of_mem _ h)
  have hown : s.vm.findClass RM = some m.cls := findClass_of_methodNamed B.named
  have hlk := B.notSynchronized
  have hS : va_S (gA sz) s.heap s.heap [] := va_S.rf
  have hH : gW D c sz ad k I J P LG LP s.heap := hH
  have hl := lv_entry ([.ref (ad (11, 0, 0)), .int G]) (n := 4) (Nat.le_of_ble_eq_true rfl)
  rw [lg_entry_eq]
  generalize (lg_sl ([.ref (ad (11, 0, 0)), .int G]) ++ List.replicate (4 - (lg_sl ([.ref (ad (11, 0, 0)), .int G])).length) Slot.unset).toArray = ls at hl ⊢
  have hl : lv_has ls 4 [(0, .ref (ad (11, 0, 0))), (1, .int G)] := hl
  have key : ∀ (n i a : Nat), i + n = 24 → a = cntB (fun p => decide (J (ma 1) p = 7 ∧ J (ma 2) p = G)) i → ∀ ls : Array Slot, lv_has ls 4 [(3, .int (nI i)), (2, .int (nI a)), (0, .ref (ad (11, 0, 0))), (1, .int G)] → ∀ (H : Heap) (locs : List Loc), gW D c sz ad k I J P LG LP H → va_S (gA sz) s.heap H locs → W p l e (headSpec wM_rest { frames := 2, cells := 0, slots := 0, locals := 48 }).room s m ([.ref (ad (11, 0, 0)), .int G] : List Value).toArray below meth cd H locs 0 0 (MQ below (va_Qi (fun r u => r = mRest J G ∧ u = (ad, k, I, J, P, LG, LP)) (gB D c sz) (gA sz)) ([.ref (ad (11, 0, 0)), .int G] : List Value).toArray s 0 0 (gA sz)) (F0 m 4 ls []) := by
    intro n
    induction n with
    | zero =>
      intro i a hi ha ls hl H locs hH hS
      rw [show i = 24 by omega] at ha
      refine lv_iload_n hx hb dM_rest_4 rfl (lv_at hl 0 rfl) ?_
      refine lv_bipush (v := 24) hx hb dM_rest_5 (by decide) ?_
      refine lv_icmp_ge hx hb dM_rest_7 rfl (fun h_1 => ?_) (fun h_1 => ?_)
      · skip
        refine lv_iload_n hx hb dM_rest_45 rfl (lv_at hl 1 rfl) ?_
        refine lv_iconst (v := 1) hx hb dM_rest_46 (by decide) ?_
        refine lv_isub hx hb dM_rest_47 ?_
        refine lv_aload_n hx hb dM_rest_48 rfl (lv_at hl 2 rfl) ?_
        refine lv_iload_n hx hb dM_rest_49 rfl (lv_at hl 3 rfl) ?_
        refine lv_iconst (v := -1) hx hb dM_rest_50 (by decide) ?_
        refine s_ciE (va_runV (As := [.int _, .int _]) (rest := [.int _]) ⟨hx, hb, hml, hown, hw⟩ (c_M_count l  ) (cwV 2 hw (gd_V (gwd_7 (List.mem_of_getElem? (i := 27) rfl)) (gwd_7 (List.mem_of_getElem? (i := 28) rfl)) (gwd_9 (List.mem_of_getElem? (i := 30) rfl)) (gwd_0 (List.mem_of_getElem? (i := 3) rfl)) (gwd_7 (List.mem_of_getElem? (i := 29) rfl))) rfl rfl rfl (by decide +kernel) ⟨Nat.le_of_ble_eq_true rfl, Nat.le_of_ble_eq_true rfl⟩) (gPre.V (n := (11, 0, 0)) hK hH (by first | exact ⟨rfl, rfl⟩ | exact ⟨by assumption, rfl⟩ | exact ⟨by assumption, by assumption⟩ | exact ⟨by omega, rfl⟩ | exact ⟨by omega, by omega⟩ | exact ⟨by decide, rfl⟩) rfl rfl) rfl rfl hl.1 rfl (lv_room (Nat.le_of_ble_eq_true rfl)) dM_rest_51 ⟨Nat.zero_le _, Nat.zero_le _⟩) hS (fun H locs hH hS => ?_)
        refine lv_isub hx hb dM_rest_54 ?_
        exact r_i hx hb hr hlk hK hH hS dM_rest_55 (⟨by rw [ha]; rfl, rfl⟩)
      · exact absurd (show (24 : Int32) ≤ nI i from nI_le (a := 24) (by omega) (by omega)) h_1
    | succ n ih =>
      intro i a hi ha ls hl H locs hH hS
      refine lv_iload_n hx hb dM_rest_4 rfl (lv_at hl 0 rfl) ?_
      refine lv_bipush (v := 24) hx hb dM_rest_5 (by decide) ?_
      refine lv_icmp_ge hx hb dM_rest_7 rfl (fun h_2 => ?_) (fun h_2 => ?_)
      · exact absurd h_2 (nI_ge (b := 24) (show i < 24 by omega) (by decide))
      · skip
        refine lv_aload_n hx hb dM_rest_10 rfl (lv_at hl 2 rfl) ?_
        refine s_get hx hb hw inM hown hK hH 1 (by decide) (hw _ (gwd_5 (List.mem_of_getElem? (i := 41) rfl))) (by first | exact ⟨rfl, rfl⟩ | exact ⟨by assumption, rfl⟩ | exact ⟨by assumption, by assumption⟩ | exact ⟨by omega, rfl⟩ | exact ⟨by omega, by omega⟩ | exact ⟨by decide, rfl⟩) rfl rfl rfl rfl dM_rest_11 ?_
        refine lv_iload_n hx hb dM_rest_14 rfl (lv_at hl 0 rfl) ?_
        refine m_iald hx hb hK hH (by first | exact ⟨rfl, rfl⟩ | exact ⟨by assumption, rfl⟩ | exact ⟨by assumption, by assumption⟩ | exact ⟨by omega, rfl⟩ | exact ⟨by omega, by omega⟩ | exact ⟨by decide, rfl⟩) rfl _ (by first | rfl | assumption) (show _ < 24 from by omega) (by decide) dM_rest_15 ?_
        refine lv_bipush (v := 7) hx hb dM_rest_16 (by decide) ?_
        refine lv_icmp_ne hx hb dM_rest_18 rfl (fun h_3 => ?_) (fun h_3 => ?_)
        · skip
          refine lv_iload_n hx hb dM_rest_37 rfl (lv_at hl 1 rfl) ?_
          refine lv_istore_n hx hb dM_rest_38 rfl hl (by decide) rfl (fun ls hl => ?_)
          have hl : lv_has ls 4 [(2, .int _), (3, .int _), (0, .ref _), (1, .int _)] := hl
          refine lv_iinc (k := 1) (v := nI (i + 1)) hx hb dM_rest_39 hl rfl (by rw [nI_succ]; rfl) (by decide) rfl (fun ls hl => ?_)
          have hl : lv_has ls 4 [(3, .int _), (2, .int _), (0, .ref _), (1, .int _)] := hl
          refine lv_goto hx hb dM_rest_42 rfl ?_
          exact ih (i + 1) _ (by omega) (by simp [cntB, ha, h_3]) ls (lv_sub hl [0, 1, 2, 3] rfl) H locs hH hS
        · skip
          refine lv_aload_n hx hb dM_rest_21 rfl (lv_at hl 2 rfl) ?_
          refine s_get hx hb hw inM hown hK hH 2 (by decide) (hw _ (gwd_5 (List.mem_of_getElem? (i := 42) rfl))) (by first | exact ⟨rfl, rfl⟩ | exact ⟨by assumption, rfl⟩ | exact ⟨by assumption, by assumption⟩ | exact ⟨by omega, rfl⟩ | exact ⟨by omega, by omega⟩ | exact ⟨by decide, rfl⟩) rfl rfl rfl rfl dM_rest_22 ?_
          refine lv_iload_n hx hb dM_rest_25 rfl (lv_at hl 0 rfl) ?_
          refine m_iald hx hb hK hH (by first | exact ⟨rfl, rfl⟩ | exact ⟨by assumption, rfl⟩ | exact ⟨by assumption, by assumption⟩ | exact ⟨by omega, rfl⟩ | exact ⟨by omega, by omega⟩ | exact ⟨by decide, rfl⟩) rfl _ (by first | rfl | assumption) (show _ < 24 from by omega) (by decide) dM_rest_26 ?_
          refine lv_iload_n hx hb dM_rest_27 rfl (lv_at hl 3 rfl) ?_
          refine lv_icmp_ne hx hb dM_rest_28 rfl (fun h_4 => ?_) (fun h_4 => ?_)
          · skip
            refine lv_iload_n hx hb dM_rest_37 rfl (lv_at hl 1 rfl) ?_
            refine lv_istore_n hx hb dM_rest_38 rfl hl (by decide) rfl (fun ls hl => ?_)
            have hl : lv_has ls 4 [(2, .int _), (3, .int _), (0, .ref _), (1, .int _)] := hl
            refine lv_iinc (k := 1) (v := nI (i + 1)) hx hb dM_rest_39 hl rfl (by rw [nI_succ]; rfl) (by decide) rfl (fun ls hl => ?_)
            have hl : lv_has ls 4 [(3, .int _), (2, .int _), (0, .ref _), (1, .int _)] := hl
            refine lv_goto hx hb dM_rest_42 rfl ?_
            exact ih (i + 1) _ (by omega) (by simp [cntB, ha, h_3, h_4]) ls (lv_sub hl [0, 1, 2, 3] rfl) H locs hH hS
          · skip
            refine lv_iload_n hx hb dM_rest_31 rfl (lv_at hl 1 rfl) ?_
            refine lv_iconst (v := 1) hx hb dM_rest_32 (by decide) ?_
            refine lv_iadd hx hb dM_rest_33 ?_
            rw [nI_1]
            refine lv_goto hx hb dM_rest_34 rfl ?_
            refine lv_istore_n hx hb dM_rest_38 rfl hl (by decide) rfl (fun ls hl => ?_)
            have hl : lv_has ls 4 [(2, .int _), (3, .int _), (0, .ref _), (1, .int _)] := hl
            refine lv_iinc (k := 1) (v := nI (i + 1)) hx hb dM_rest_39 hl rfl (by rw [nI_succ]; rfl) (by decide) rfl (fun ls hl => ?_)
            have hl : lv_has ls 4 [(3, .int _), (2, .int _), (0, .ref _), (1, .int _)] := hl
            refine lv_goto hx hb dM_rest_42 rfl ?_
            exact ih (i + 1) _ (by omega) (by simp [cntB, ha, h_3, h_4]) ls (lv_sub hl [0, 1, 2, 3] rfl) H locs hH hS
  refine lv_iconst (v := 0) hx hb dM_rest_0 (by decide) ?_
  refine lv_istore_n hx hb dM_rest_1 rfl hl (by decide) rfl (fun ls hl => ?_)
  have hl : lv_has ls 4 [(2, .int _), (0, .ref _), (1, .int _)] := hl
  refine lv_iconst (v := 0) hx hb dM_rest_2 (by decide) ?_
  refine lv_istore_n hx hb dM_rest_3 rfl hl (by decide) rfl (fun ls hl => ?_)
  have hl : lv_has ls 4 [(3, .int _), (2, .int _), (0, .ref _), (1, .int _)] := hl
  exact key 24 0 0 (by omega) rfl ls (lv_sub hl [0, 1, 2, 3] rfl) s.heap [] hH hS
