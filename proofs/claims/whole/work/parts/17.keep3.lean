set_option maxHeartbeats 4000000 in
set_option maxRecDepth 100000 in
theorem c_K_destroy (l : Launch) {D : va_G} {c : Nat → ClassId} {sz : Nat} {ad : gN → Nat} {k : Nat} {I J : gI} {P : gP} {LG : Option Nat} {LP : Option (Nat × Nat)} {a : Int32} (hLG : ∀ g, LG = some g → g < k) : Met l yK_destroy wK_destroy { frames := 4, cells := 0, slots := 0, locals := 83 } (gPre D c sz [.ref (ad (0, 0, 0)), .int a] (ad, k, I, J, P, LG, LP)) (va_Qi (fun r u => r = (cDestroy I k LG a).1 ∧ u = (ad, k, (cDestroy I k LG a).2, J, P, LG, LP)) (gB D c sz) (gA sz)) 0 0 (gA sz) := by
  refine Met.ofW (cc := cK_destroy) (maxL := 4) (ret := (some .boolean)) (by decide) rfl ?_
  intro p e s m args below meth cd s₁ B hml hv
  obtain ⟨rfl, hK, hH⟩ := hv
  have hx := B.exec
  have hb := B.bytes
  have hr := B.returns
  have hts := atoms_spec (ws := wK_destroy) B.pre
  have hw : ∀ w ∈ gWd, w.before _ s = true := fun w h => hts w (List.mem_cons_of_mem _ h)
  have hown : s.vm.findClass RK = some m.cls := findClass_of_methodNamed B.named
  have hlk := B.notSynchronized
  have hS : va_S (gA sz) s.heap s.heap [] := va_S.rf
  have hH : gW D c sz ad k I J P LG LP s.heap := hH
  have hl := lv_entry ([.ref (ad (0, 0, 0)), .int a]) (n := 4) (Nat.le_of_ble_eq_true rfl)
  rw [lg_entry_eq]
  generalize (lg_sl ([.ref (ad (0, 0, 0)), .int a]) ++ List.replicate (4 - (lg_sl ([.ref (ad (0, 0, 0)), .int a])).length) Slot.unset).toArray = ls at hl ⊢
  have hl : lv_has ls 4 [(0, .ref (ad (0, 0, 0))), (1, .int a)] := hl
  have key : ∀ (I' : gI), (cDestroy I k LG a).1 = 1 → (cDestroy I k LG a).2 = sLoseN I' a 24 → ∀ (n i : Nat), i + n = 24 → ∀ ls : Array Slot, lv_has ls 4 [(3, .int (nI i)), (0, .ref (ad (0, 0, 0))), (1, .int a)] → ∀ (H : Heap) (locs : List Loc), gW D c sz ad k (sLoseN I' a i) J P LG LP H → va_S (gA sz) s.heap H locs → W p l e (headSpec wK_destroy { frames := 4, cells := 0, slots := 0, locals := 83 }).room s m ([.ref (ad (0, 0, 0)), .int a] : List Value).toArray below meth cd H locs 0 0 (MQ below (va_Qi (fun r u => r = (cDestroy I k LG a).1 ∧ u = (ad, k, (cDestroy I k LG a).2, J, P, LG, LP)) (gB D c sz) (gA sz)) ([.ref (ad (0, 0, 0)), .int a] : List Value).toArray s 0 0 (gA sz)) (F0 m 27 ls []) := by
    intro I' hI1 hI2 n
    induction n with
    | zero =>
      intro i hi ls hl H locs hH hS
      refine lv_iload_n hx hb dK_destroy_27 rfl (lv_at hl 0 rfl) ?_
      refine lv_bipush (v := 24) hx hb dK_destroy_28 (by decide) ?_
      refine lv_icmp_ge hx hb dK_destroy_30 rfl (fun h_1 => ?_) (fun h_1 => ?_)
      · skip
        refine lv_iconst (v := 1) hx hb dK_destroy_49 (by decide) ?_
        exact r_z hx hb hr hlk hK hH hS dK_destroy_50 (by first | exact Or.inl rfl | exact Or.inr rfl | exact bz_01 _ | assumption) (⟨hI1.symm, by rw [hI2, show i = 24 by omega]⟩)
      · exact absurd (show (24 : Int32) ≤ nI i from nI_le (a := 24) (by omega) (by omega)) h_1
    | succ n ih =>
      intro i hi ls hl H locs hH hS
      refine lv_iload_n hx hb dK_destroy_27 rfl (lv_at hl 0 rfl) ?_
      refine lv_bipush (v := 24) hx hb dK_destroy_28 (by decide) ?_
      refine lv_icmp_ge hx hb dK_destroy_30 rfl (fun h_2 => ?_) (fun h_2 => ?_)
      · exact absurd h_2 (nI_ge (b := 24) (show i < 24 by omega) (by decide))
      · skip
        refine lv_aload_n hx hb dK_destroy_33 rfl (lv_at hl 1 rfl) ?_
        refine s_get hx hb hw inK hown hK hH 0 (by decide) (hw _ (gwd_0 (List.mem_of_getElem? (i := 41) rfl))) (by first | exact ⟨rfl, rfl⟩ | exact ⟨by assumption, rfl⟩ | exact ⟨by assumption, by assumption⟩ | exact ⟨by omega, rfl⟩ | exact ⟨by omega, by omega⟩ | exact ⟨by decide, rfl⟩) rfl rfl rfl rfl dK_destroy_34 ?_
        refine lv_iload_n hx hb dK_destroy_37 rfl (lv_at hl 0 rfl) ?_
        refine s_aaP hx hb hK hH _ (by first | rfl | assumption) (by omega) dK_destroy_38 ?_
        refine lv_iload_n hx hb dK_destroy_39 rfl (lv_at hl 2 rfl) ?_
        refine s_cvE (va_runV (As := [.int _]) (rest := []) ⟨hx, hb, hml, hown, hw⟩ (c_P_loseGuest l  (by omega)) (cwV 1 hw (gd_V (gwd_4 (List.mem_of_getElem? (i := 1) rfl)) (gwd_4 (List.mem_of_getElem? (i := 2) rfl)) (gwd_4 (List.mem_of_getElem? (i := 3) rfl)) (gwd_0 (List.mem_of_getElem? (i := 2) rfl)) (gwd_4 (List.mem_of_getElem? (i := 4) rfl))) rfl rfl rfl (by decide +kernel) ⟨Nat.le_of_ble_eq_true rfl, Nat.le_of_ble_eq_true rfl⟩) (gPre.V (n := (2, _, 0)) hK hH (by first | exact ⟨rfl, rfl⟩ | exact ⟨by assumption, rfl⟩ | exact ⟨by assumption, by assumption⟩ | exact ⟨by omega, rfl⟩ | exact ⟨by omega, by omega⟩ | exact ⟨by decide, rfl⟩) rfl rfl) rfl rfl hl.1 rfl (lv_room (Nat.le_of_ble_eq_true rfl)) dK_destroy_40 ⟨Nat.zero_le _, Nat.zero_le _⟩) hS (fun H locs hH hS => ?_)
        refine lv_iinc (k := 0) (v := nI (i + 1)) hx hb dK_destroy_43 hl rfl (by rw [nI_succ]; rfl) (by decide) rfl (fun ls hl => ?_)
        have hl : lv_has ls 4 [(3, .int _), (0, .ref _), (1, .int _)] := hl
        refine lv_goto hx hb dK_destroy_46 rfl ?_
        exact ih (i + 1) (by omega) ls (lv_sub hl [0, 1, 2] rfl) H locs (by rw [show sLoseN I' a (i + 1) = sLose (sLoseN I' a i) i a from rfl]; exact hH) hS
  refine lv_aload_n hx hb dK_destroy_0 rfl (lv_at hl 0 rfl) ?_
  refine lv_iload_n hx hb dK_destroy_1 rfl (lv_at hl 1 rfl) ?_
  refine s_cqE (va_runV (As := [.int _]) (rest := []) ⟨hx, hb, hml, hown, hw⟩ (c_K_livingGuest l  ) (cwV 1 hw (gd_V (gwd_3 (List.mem_of_getElem? (i := 3) rfl)) (gwd_3 (List.mem_of_getElem? (i := 4) rfl)) (gwd_9 (List.mem_of_getElem? (i := 14) rfl)) (gwd_0 (List.mem_of_getElem? (i := 1) rfl)) (gwd_3 (List.mem_of_getElem? (i := 5) rfl))) rfl rfl rfl (by decide +kernel) ⟨Nat.le_of_ble_eq_true rfl, Nat.le_of_ble_eq_true rfl⟩) (gPre.V (n := (0, 0, 0)) hK hH (by first | exact ⟨rfl, rfl⟩ | exact ⟨by assumption, rfl⟩ | exact ⟨by assumption, by assumption⟩ | exact ⟨by omega, rfl⟩ | exact ⟨by omega, by omega⟩ | exact ⟨by decide, rfl⟩) rfl rfl) rfl rfl hl.1 rfl (lv_room (Nat.le_of_ble_eq_true rfl)) dK_destroy_2 ⟨Nat.zero_le _, Nat.zero_le _⟩) hS (fun H locs h_3 hH hS => ?_) (fun H locs g_4 h_3 hH hS => ?_)
  · skip
    refine lv_astore_nN hx hb dK_destroy_5 rfl hl (by decide) rfl (fun ls hl => ?_)
    have hl : lv_has ls 4 [(2, .null), (0, .ref _), (1, .int _)] := hl
    refine lv_aload_nN hx hb dK_destroy_6 rfl (lv_at hl 0 rfl) ?_
    refine lv_ifnullN hx hb dK_destroy_7 rfl ?_
    refine lv_iconst (v := 0) hx hb dK_destroy_18 (by decide) ?_
    exact r_z hx hb hr hlk hK hH hS dK_destroy_19 (by first | exact Or.inl rfl | exact Or.inr rfl | exact bz_01 _ | assumption) (by simp only [cDestroy, h_3]; exact ⟨trivial, trivial⟩)
  · skip
    have hlt_g_4 : g_4 < k := sLiv_lt h_3
    refine lv_astore_n hx hb dK_destroy_5 rfl hl (by decide) rfl (fun ls hl => ?_)
    have hl : lv_has ls 4 [(2, .ref _), (0, .ref _), (1, .int _)] := hl
    refine lv_aload_n hx hb dK_destroy_6 rfl (lv_at hl 0 rfl) ?_
    refine lv_ifnull hx hb dK_destroy_7 ?_
    refine lv_aload_n hx hb dK_destroy_10 rfl (lv_at hl 0 rfl) ?_
    refine lv_aload_n hx hb dK_destroy_11 rfl (lv_at hl 1 rfl) ?_
    refine s_get hx hb hw inK hown hK hH 6 (by decide) (hw _ (gwd_0 (List.mem_of_getElem? (i := 47) rfl))) (by first | exact ⟨rfl, rfl⟩ | exact ⟨by assumption, rfl⟩ | exact ⟨by assumption, by assumption⟩ | exact ⟨by omega, rfl⟩ | exact ⟨by omega, by omega⟩ | exact ⟨by decide, rfl⟩) rfl rfl rfl rfl dK_destroy_12 ?_
    refine lv_acmp_ne (rx := some _) (ry := LG.map fun g => ad (6, g, 0)) hx hb dK_destroy_15 rfl (fun h_5 => ?_) (fun h_5 => ?_)
    · have h_5 : ¬ LG = some g_4 := fun z => h_5 (by rw [z]; rfl)
      refine lv_aload_n hx hb dK_destroy_20 rfl (lv_at hl 0 rfl) ?_
      refine lv_iconst (v := 0) hx hb dK_destroy_21 (by decide) ?_
      refine s_put hx hb hw inG tyG_ok nG hown hK hH hS 3 (by decide) (hw _ (gwd_2 (List.mem_of_getElem? (i := 20) rfl))) (by first | exact ⟨rfl, rfl⟩ | exact ⟨by assumption, rfl⟩ | exact ⟨by assumption, by assumption⟩ | exact ⟨by omega, rfl⟩ | exact ⟨by omega, by omega⟩ | exact ⟨by decide, rfl⟩) rfl rfl rfl rfl rfl (nar01 (by first | exact Or.inl rfl | exact Or.inr rfl | exact bz_01 _ | assumption)) (fit01 (by first | exact Or.inl rfl | exact Or.inr rfl | exact bz_01 _ | assumption)) (Nat.le_of_ble_eq_true rfl) rfl dK_destroy_22 (fun H locs hH hS => ?_)
      refine lv_iconst (v := 0) hx hb dK_destroy_25 (by decide) ?_
      refine lv_istore_n hx hb dK_destroy_26 rfl hl (by decide) rfl (fun ls hl => ?_)
      have hl : lv_has ls 4 [(3, .int _), (2, .ref _), (0, .ref _), (1, .int _)] := hl
      exact key (iu I (6, g_4, 0) 3 0) (by simp only [cDestroy, h_3]; rw [if_neg h_5]) (by simp only [cDestroy, h_3]; rw [if_neg h_5]) 24 0 (by omega) ls (lv_sub hl [0, 2, 3] rfl) H locs hH hS
    · have h_5 : LG = some g_4 := by
        cases hz : LG with
        | none => rw [hz] at h_5; cases h_5
        | some z =>
          rw [hz] at h_5
          have zz := gH.inj hH (n := (6, g_4, 0)) (n' := (6, z, 0)) ⟨by assumption, rfl⟩ ⟨hLG _ hz, rfl⟩ (Option.some.inj h_5)
          cases zz
          rfl
      refine lv_iconst (v := 0) hx hb dK_destroy_18 (by decide) ?_
      exact r_z hx hb hr hlk hK hH hS dK_destroy_19 (by first | exact Or.inl rfl | exact Or.inr rfl | exact bz_01 _ | assumption) (by simp only [cDestroy, h_3]; rw [if_pos h_5]; exact ⟨rfl, rfl⟩)
set_option maxHeartbeats 4000000 in
set_option maxRecDepth 100000 in
theorem c_K_load (l : Launch) {D : va_G} {c : Nat → ClassId} {sz : Nat} {ad : gN → Nat} {k : Nat} {I J : gI} {P : gP} {LG : Option Nat} {LP : Option (Nat × Nat)} {a v : Int32}  : Met l yK_load wK_load { frames := 1, cells := 0, slots := 0, locals := 22 } (gPre D c sz [.ref (ad (0, 0, 0)), .int a, .int v] (ad, k, I, J, P, LG, LP)) (va_Qi (fun r u => r = (cLoad I k LG LP a v).1 ∧ u = (ad, k, (cLoad I k LG LP a v).2.1, J, P, (cLoad I k LG LP a v).2.2.1, (cLoad I k LG LP a v).2.2.2)) (gB D c sz) (gA sz)) 0 0 (gA sz) := by
  refine Met.ofW (cc := cK_load) (maxL := 4) (ret := (some .boolean)) (by decide) rfl ?_
  intro p e s m args below meth cd s₁ B hml hv
  obtain ⟨rfl, hK, hH⟩ := hv
  have hx := B.exec
  have hb := B.bytes
  have hr := B.returns
  have hts := atoms_spec (ws := wK_load) B.pre
  have hw : ∀ w ∈ gWd, w.before _ s = true := fun w h => hts w (List.mem_cons_of_mem _ h)
  have hown : s.vm.findClass RK = some m.cls := findClass_of_methodNamed B.named
  have hlk := B.notSynchronized
  have hS : va_S (gA sz) s.heap s.heap [] := va_S.rf
  have hH : gW D c sz ad k I J P LG LP s.heap := hH
  have hl := lv_entry ([.ref (ad (0, 0, 0)), .int a, .int v]) (n := 4) (Nat.le_of_ble_eq_true rfl)
  rw [lg_entry_eq]
  generalize (lg_sl ([.ref (ad (0, 0, 0)), .int a, .int v]) ++ List.replicate (4 - (lg_sl ([.ref (ad (0, 0, 0)), .int a, .int v])).length) Slot.unset).toArray = ls at hl ⊢
  have hl : lv_has ls 4 [(0, .ref (ad (0, 0, 0))), (1, .int a), (2, .int v)] := hl
  refine lv_aload_n hx hb dK_load_0 rfl (lv_at hl 0 rfl) ?_
  refine lv_iload_n hx hb dK_load_1 rfl (lv_at hl 1 rfl) ?_
  refine s_cqE (va_runV (As := [.int _]) (rest := []) ⟨hx, hb, hml, hown, hw⟩ (c_K_livingGuest l  ) (cwV 1 hw (gd_V (gwd_3 (List.mem_of_getElem? (i := 3) rfl)) (gwd_3 (List.mem_of_getElem? (i := 4) rfl)) (gwd_9 (List.mem_of_getElem? (i := 14) rfl)) (gwd_0 (List.mem_of_getElem? (i := 1) rfl)) (gwd_3 (List.mem_of_getElem? (i := 5) rfl))) rfl rfl rfl (by decide +kernel) ⟨Nat.le_of_ble_eq_true rfl, Nat.le_of_ble_eq_true rfl⟩) (gPre.V (n := (0, 0, 0)) hK hH (by first | exact ⟨rfl, rfl⟩ | exact ⟨by assumption, rfl⟩ | exact ⟨by assumption, by assumption⟩ | exact ⟨by omega, rfl⟩ | exact ⟨by omega, by omega⟩ | exact ⟨by decide, rfl⟩) rfl rfl) rfl rfl hl.1 rfl (lv_room (Nat.le_of_ble_eq_true rfl)) dK_load_2 ⟨Nat.zero_le _, Nat.zero_le _⟩) hS (fun H locs h_1 hH hS => ?_) (fun H locs g_2 h_1 hH hS => ?_)
  · skip
    refine lv_astore_nN hx hb dK_load_5 rfl hl (by decide) rfl (fun ls hl => ?_)
    have hl : lv_has ls 4 [(3, .null), (0, .ref _), (1, .int _), (2, .int _)] := hl
    refine lv_aload_n hx hb dK_load_6 rfl (lv_at hl 1 rfl) ?_
    refine s_get hx hb hw inK hown hK hH 7 (by decide) (hw _ (gwd_1 (List.mem_of_getElem? (i := 0) rfl))) (by first | exact ⟨rfl, rfl⟩ | exact ⟨by assumption, rfl⟩ | exact ⟨by assumption, by assumption⟩ | exact ⟨by omega, rfl⟩ | exact ⟨by omega, by omega⟩ | exact ⟨by decide, rfl⟩) rfl rfl rfl rfl dK_load_7 ?_
    rcases LP with _ | ⟨lg, lv⟩
    · skip
      refine lv_ifnonnullN hx hb dK_load_10 ?_
      refine lv_aload_nN hx hb dK_load_13 rfl (lv_at hl 0 rfl) ?_
      refine lv_ifnullN hx hb dK_load_14 rfl ?_
      refine lv_iconst (v := 0) hx hb dK_load_26 (by decide) ?_
      exact r_z hx hb hr hlk hK hH hS dK_load_27 (by first | exact Or.inl rfl | exact Or.inr rfl | exact bz_01 _ | assumption) (by first | (simp only [cLoad]; exact ⟨trivial, trivial⟩) | (simp only [cLoad, h_1]; exact ⟨trivial, trivial⟩) | (simp only [cLoad, h_1]; rw [if_pos (Or.inl rfl)]; exact ⟨rfl, rfl⟩) | (simp only [cLoad, h_1]; rw [if_neg (fun q => q.elim rfl (fun q => absurd q (Int32.not_le.mpr rfl))), hib]; exact ⟨rfl, rfl⟩) | (simp only [cLoad, h_1]; rw [if_pos (Or.inr (Int32.not_lt.mp rfl))]; exact ⟨rfl, rfl⟩))
    · skip
      refine lv_ifnonnull hx hb dK_load_10 rfl ?_
      refine lv_iconst (v := 0) hx hb dK_load_26 (by decide) ?_
      exact r_z hx hb hr hlk hK hH hS dK_load_27 (by first | exact Or.inl rfl | exact Or.inr rfl | exact bz_01 _ | assumption) (by first | (simp only [cLoad]; exact ⟨trivial, trivial⟩) | (simp only [cLoad, h_1]; exact ⟨trivial, trivial⟩) | (simp only [cLoad, h_1]; rw [if_pos (Or.inl rfl)]; exact ⟨rfl, rfl⟩) | (simp only [cLoad, h_1]; rw [if_neg (fun q => q.elim rfl (fun q => absurd q (Int32.not_le.mpr rfl))), hib]; exact ⟨rfl, rfl⟩) | (simp only [cLoad, h_1]; rw [if_pos (Or.inr (Int32.not_lt.mp rfl))]; exact ⟨rfl, rfl⟩))
  · skip
    have hlt_g_2 : g_2 < k := sLiv_lt h_1
    refine lv_astore_n hx hb dK_load_5 rfl hl (by decide) rfl (fun ls hl => ?_)
    have hl : lv_has ls 4 [(3, .ref _), (0, .ref _), (1, .int _), (2, .int _)] := hl
    refine lv_aload_n hx hb dK_load_6 rfl (lv_at hl 1 rfl) ?_
    refine s_get hx hb hw inK hown hK hH 7 (by decide) (hw _ (gwd_1 (List.mem_of_getElem? (i := 0) rfl))) (by first | exact ⟨rfl, rfl⟩ | exact ⟨by assumption, rfl⟩ | exact ⟨by assumption, by assumption⟩ | exact ⟨by omega, rfl⟩ | exact ⟨by omega, by omega⟩ | exact ⟨by decide, rfl⟩) rfl rfl rfl rfl dK_load_7 ?_
    rcases LP with _ | ⟨lg, lv⟩
    · skip
      refine lv_ifnonnullN hx hb dK_load_10 ?_
      refine lv_aload_n hx hb dK_load_13 rfl (lv_at hl 0 rfl) ?_
      refine lv_ifnull hx hb dK_load_14 ?_
      refine lv_iload_n hx hb dK_load_17 rfl (lv_at hl 3 rfl) ?_
      refine lv_if_lt hx hb dK_load_18 rfl (fun h_3 => ?_) (fun h_3 => ?_)
      · skip
        refine lv_iconst (v := 0) hx hb dK_load_26 (by decide) ?_
        exact r_z hx hb hr hlk hK hH hS dK_load_27 (by first | exact Or.inl rfl | exact Or.inr rfl | exact bz_01 _ | assumption) (by first | (simp only [cLoad]; exact ⟨trivial, trivial⟩) | (simp only [cLoad, h_1]; exact ⟨trivial, trivial⟩) | (simp only [cLoad, h_1]; rw [if_pos (Or.inl h_3)]; exact ⟨rfl, rfl⟩) | (simp only [cLoad, h_1]; rw [if_neg (fun q => q.elim h_3 (fun q => absurd q (Int32.not_le.mpr rfl))), hib]; exact ⟨rfl, rfl⟩) | (simp only [cLoad, h_1]; rw [if_pos (Or.inr (Int32.not_lt.mp rfl))]; exact ⟨rfl, rfl⟩))
      · skip
        refine lv_iload_n hx hb dK_load_21 rfl (lv_at hl 3 rfl) ?_
        refine lv_iconst (v := 2) hx hb dK_load_22 (by decide) ?_
        refine lv_icmp_lt hx hb dK_load_23 rfl (fun h_4 => ?_) (fun h_4 => ?_)
        · skip
          obtain ⟨b, hb2, rfl⟩ := ix_lt 2 2 rfl (by decide) h_3 (Int32.not_le.mpr h_4)
          have hib : ix (nI b) = b := ix_nI (by omega)
          refine lv_aload_n hx hb dK_load_28 rfl (lv_at hl 0 rfl) ?_
          refine lv_iconst (v := 1) hx hb dK_load_29 (by decide) ?_
          refine s_put hx hb hw inG tyG_ok nG hown hK hH hS 4 (by decide) (hw _ (gwd_2 (List.mem_of_getElem? (i := 21) rfl))) (by first | exact ⟨rfl, rfl⟩ | exact ⟨by assumption, rfl⟩ | exact ⟨by assumption, by assumption⟩ | exact ⟨by omega, rfl⟩ | exact ⟨by omega, by omega⟩ | exact ⟨by decide, rfl⟩) rfl rfl rfl rfl rfl (nar01 (by first | exact Or.inl rfl | exact Or.inr rfl | exact bz_01 _ | assumption)) (fit01 (by first | exact Or.inl rfl | exact Or.inr rfl | exact bz_01 _ | assumption)) (Nat.le_of_ble_eq_true rfl) rfl dK_load_30 (fun H locs hH hS => ?_)
          refine lv_aload_n hx hb dK_load_33 rfl (lv_at hl 1 rfl) ?_
          refine lv_aload_n hx hb dK_load_34 rfl (lv_at hl 0 rfl) ?_
          refine s_putL hx hb hw inK tyK_ok nK hown hK hH hS 6 (by decide) (hw _ (gwd_0 (List.mem_of_getElem? (i := 47) rfl))) rfl rfl rfl rfl rfl rfl rfl (Nat.le_of_ble_eq_true rfl) (some _) _ rfl dK_load_35 (fun H locs hH hS => ?_)
          refine lv_aload_n hx hb dK_load_38 rfl (lv_at hl 1 rfl) ?_
          refine lv_aload_n hx hb dK_load_39 rfl (lv_at hl 0 rfl) ?_
          refine s_get hx hb hw inG hown hK hH 2 (by decide) (hw _ (gwd_2 (List.mem_of_getElem? (i := 18) rfl))) (by first | exact ⟨rfl, rfl⟩ | exact ⟨by assumption, rfl⟩ | exact ⟨by assumption, by assumption⟩ | exact ⟨by omega, rfl⟩ | exact ⟨by omega, by omega⟩ | exact ⟨by decide, rfl⟩) rfl rfl rfl rfl dK_load_40 ?_
          refine lv_iload_n hx hb dK_load_43 rfl (lv_at hl 3 rfl) ?_
          refine s_aaR hx hb hK hH (by first | assumption | decide | omega) _ (by first | rfl | assumption) (by omega) dK_load_44 ?_
          refine s_putL hx hb hw inK tyK_ok nK hown hK hH hS 7 (by decide) (hw _ (gwd_1 (List.mem_of_getElem? (i := 0) rfl))) rfl rfl rfl rfl rfl rfl rfl (Nat.le_of_ble_eq_true rfl) _ (some (_, _)) rfl dK_load_45 (fun H locs hH hS => ?_)
          refine lv_iconst (v := 1) hx hb dK_load_48 (by decide) ?_
          exact r_z hx hb hr hlk hK hH hS dK_load_49 (by first | exact Or.inl rfl | exact Or.inr rfl | exact bz_01 _ | assumption) (by first | (simp only [cLoad]; exact ⟨trivial, trivial⟩) | (simp only [cLoad, h_1]; exact ⟨trivial, trivial⟩) | (simp only [cLoad, h_1]; rw [if_pos (Or.inl h_3)]; exact ⟨rfl, rfl⟩) | (simp only [cLoad, h_1]; rw [if_neg (fun q => q.elim h_3 (fun q => absurd q (Int32.not_le.mpr h_4))), hib]; exact ⟨rfl, rfl⟩) | (simp only [cLoad, h_1]; rw [if_pos (Or.inr (Int32.not_lt.mp h_4))]; exact ⟨rfl, rfl⟩))
        · skip
          refine lv_iconst (v := 0) hx hb dK_load_26 (by decide) ?_
          exact r_z hx hb hr hlk hK hH hS dK_load_27 (by first | exact Or.inl rfl | exact Or.inr rfl | exact bz_01 _ | assumption) (by first | (simp only [cLoad]; exact ⟨trivial, trivial⟩) | (simp only [cLoad, h_1]; exact ⟨trivial, trivial⟩) | (simp only [cLoad, h_1]; rw [if_pos (Or.inl h_3)]; exact ⟨rfl, rfl⟩) | (simp only [cLoad, h_1]; rw [if_neg (fun q => q.elim h_3 (fun q => absurd q (Int32.not_le.mpr h_4))), hib]; exact ⟨rfl, rfl⟩) | (simp only [cLoad, h_1]; rw [if_pos (Or.inr (Int32.not_lt.mp h_4))]; exact ⟨rfl, rfl⟩))
    · skip
      refine lv_ifnonnull hx hb dK_load_10 rfl ?_
      refine lv_iconst (v := 0) hx hb dK_load_26 (by decide) ?_
      exact r_z hx hb hr hlk hK hH hS dK_load_27 (by first | exact Or.inl rfl | exact Or.inr rfl | exact bz_01 _ | assumption) (by first | (simp only [cLoad]; exact ⟨trivial, trivial⟩) | (simp only [cLoad, h_1]; exact ⟨trivial, trivial⟩) | (simp only [cLoad, h_1]; rw [if_pos (Or.inl rfl)]; exact ⟨rfl, rfl⟩) | (simp only [cLoad, h_1]; rw [if_neg (fun q => q.elim rfl (fun q => absurd q (Int32.not_le.mpr rfl))), hib]; exact ⟨rfl, rfl⟩) | (simp only [cLoad, h_1]; rw [if_pos (Or.inr (Int32.not_lt.mp rfl))]; exact ⟨rfl, rfl⟩))
set_option maxHeartbeats 4000000 in
set_option maxRecDepth 100000 in
theorem c_K_put (l : Launch) {D : va_G} {c : Nat → ClassId} {sz : Nat} {ad : gN → Nat} {k : Nat} {I J : gI} {P : gP} {LG : Option Nat} {LP : Option (Nat × Nat)}   : Met l yK_put wK_put { frames := 0, cells := 0, slots := 0, locals := 0 } (gPre D c sz [.ref (ad (0, 0, 0))] (ad, k, I, J, P, LG, LP)) (va_Qi (fun r u => r = bz (¬ LP = none) ∧ u = (ad, k, I, J, P, (if LP = none then LG else none), none)) (gB D c sz) (gA sz)) 0 0 (gA sz) := by
  refine Met.ofW (cc := cK_put) (maxL := 1) (ret := (some .boolean)) (by decide) rfl ?_
  intro p e s m args below meth cd s₁ B hml hv
  obtain ⟨rfl, hK, hH⟩ := hv
  have hx := B.exec
  have hb := B.bytes
  have hr := B.returns
  have hts := atoms_spec (ws := wK_put) B.pre
  have hw : ∀ w ∈ gWd, w.before _ s = true := fun w h => hts w (List.mem_cons_of_mem _ h)
  have hown : s.vm.findClass RK = some m.cls := findClass_of_methodNamed B.named
  have hlk := B.notSynchronized
  have hS : va_S (gA sz) s.heap s.heap [] := va_S.rf
  have hH : gW D c sz ad k I J P LG LP s.heap := hH
  have hl := lv_entry ([.ref (ad (0, 0, 0))]) (n := 1) (Nat.le_of_ble_eq_true rfl)
  rw [lg_entry_eq]
  generalize (lg_sl ([.ref (ad (0, 0, 0))]) ++ List.replicate (1 - (lg_sl ([.ref (ad (0, 0, 0))])).length) Slot.unset).toArray = ls at hl ⊢
  have hl : lv_has ls 1 [(0, .ref (ad (0, 0, 0)))] := hl
  refine lv_aload_n hx hb dK_put_0 rfl (lv_at hl 0 rfl) ?_
  refine s_get hx hb hw inK hown hK hH 7 (by decide) (hw _ (gwd_1 (List.mem_of_getElem? (i := 0) rfl))) (by first | exact ⟨rfl, rfl⟩ | exact ⟨by assumption, rfl⟩ | exact ⟨by assumption, by assumption⟩ | exact ⟨by omega, rfl⟩ | exact ⟨by omega, by omega⟩ | exact ⟨by decide, rfl⟩) rfl rfl rfl rfl dK_put_1 ?_
  rcases LP with _ | ⟨lg, lv⟩
  · skip
    refine lv_ifnonnullN hx hb dK_put_4 ?_
    refine lv_iconst (v := 0) hx hb dK_put_7 (by decide) ?_
    exact r_z hx hb hr hlk hK hH hS dK_put_8 (by first | exact Or.inl rfl | exact Or.inr rfl | exact bz_01 _ | assumption) (⟨rfl, rfl⟩)
  · skip
    refine lv_ifnonnull hx hb dK_put_4 rfl ?_
    refine lv_aload_n hx hb dK_put_9 rfl (lv_at hl 0 rfl) ?_
    refine lv_null hx hb dK_put_10 ?_
    refine s_putL hx hb hw inK tyK_ok nK hown hK hH hS 6 (by decide) (hw _ (gwd_0 (List.mem_of_getElem? (i := 47) rfl))) rfl rfl rfl rfl rfl rfl rfl (Nat.le_of_ble_eq_true rfl) none _ rfl dK_put_11 (fun H locs hH hS => ?_)
    refine lv_aload_n hx hb dK_put_14 rfl (lv_at hl 0 rfl) ?_
    refine lv_null hx hb dK_put_15 ?_
    refine s_putL hx hb hw inK tyK_ok nK hown hK hH hS 7 (by decide) (hw _ (gwd_1 (List.mem_of_getElem? (i := 0) rfl))) rfl rfl rfl rfl rfl rfl rfl (Nat.le_of_ble_eq_true rfl) _ none rfl dK_put_16 (fun H locs hH hS => ?_)
    refine lv_iconst (v := 1) hx hb dK_put_19 (by decide) ?_
    exact r_z hx hb hr hlk hK hH hS dK_put_20 (by first | exact Or.inl rfl | exact Or.inr rfl | exact bz_01 _ | assumption) (⟨rfl, rfl⟩)
theorem sAns_pc {I : gI} {g v : Nat} {x : Int32} (h : pcOK I g v) : pcOK (sAns I g v x) g v := by
  obtain ⟨t, ht, e⟩ := h
  refine ⟨t, ht, ?_⟩
  unfold sAns
  split
  · exact e
  · simp [iu_at]; exact e
set_option maxHeartbeats 4000000 in
set_option maxRecDepth 100000 in
theorem c_K_run (l : Launch) {D : va_G} {c : Nat → ClassId} {sz : Nat} {ad : gN → Nat} {k : Nat} {I J : gI} {P : gP} {LG : Option Nat} {LP : Option (Nat × Nat)} {n x : Int32} (hLP : ∀ q, LP = some q → q.1 < k ∧ q.2 < 2 ∧ LG = some q.1) (hPl : ∀ g a q, P g a = some q → q < 24) (hask : ∀ g v, g < k → v < 2 → (I (9, g, v) 3 = -1 ∨ ∃ a, a < 4 ∧ I (9, g, v) 3 = nI a)) (hpc : ∀ g v, g < k → v < 2 → pcOK I g v) : Met l yK_run wK_run { frames := 6, cells := 0, slots := 0, locals := 138 } (gPre D c sz [.ref (ad (0, 0, 0)), .int n, .int x] (ad, k, I, J, P, LG, LP)) (va_Qi (fun r u => r = (cRun I P LP n x).1 ∧ u = (ad, k, (cRun I P LP n x).2, J, P, LG, LP)) (gB D c sz) (gA sz)) 0 0 (gA sz) := by
  refine Met.ofW (cc := cK_run) (maxL := 4) (ret := (some .int)) (by decide) rfl ?_
  intro p e s m args below meth cd s₁ B hml hv
  obtain ⟨rfl, hK, hH⟩ := hv
  have hx := B.exec
  have hb := B.bytes
  have hr := B.returns
  have hts := atoms_spec (ws := wK_run) B.pre
  have hw : ∀ w ∈ gWd, w.before _ s = true := fun w h => hts w (List.mem_cons_of_mem _ h)
  have hown : s.vm.findClass RK = some m.cls := findClass_of_methodNamed B.named
  have hlk := B.notSynchronized
  have hS : va_S (gA sz) s.heap s.heap [] := va_S.rf
  have hH : gW D c sz ad k I J P LG LP s.heap := hH
  have hl := lv_entry ([.ref (ad (0, 0, 0)), .int n, .int x]) (n := 4) (Nat.le_of_ble_eq_true rfl)
  rw [lg_entry_eq]
  generalize (lg_sl ([.ref (ad (0, 0, 0)), .int n, .int x]) ++ List.replicate (4 - (lg_sl ([.ref (ad (0, 0, 0)), .int n, .int x])).length) Slot.unset).toArray = ls at hl ⊢
  have hl : lv_has ls 4 [(0, .ref (ad (0, 0, 0))), (1, .int n), (2, .int x)] := hl
  refine lv_aload_n hx hb dK_run_0 rfl (lv_at hl 0 rfl) ?_
  refine s_get hx hb hw inK hown hK hH 7 (by decide) (hw _ (gwd_1 (List.mem_of_getElem? (i := 0) rfl))) (by first | exact ⟨rfl, rfl⟩ | exact ⟨by assumption, rfl⟩ | exact ⟨by assumption, by assumption⟩ | exact ⟨by omega, rfl⟩ | exact ⟨by omega, by omega⟩ | exact ⟨by decide, rfl⟩) rfl rfl rfl rfl dK_run_1 ?_
  rcases LP with _ | ⟨lg, lv⟩
  · skip
    refine lv_ifnullN hx hb dK_run_4 rfl ?_
    refine lv_iconst (v := -1) hx hb dK_run_25 (by decide) ?_
    exact r_i hx hb hr hlk hK hH hS dK_run_26 (by first | exact ⟨rfl, rfl⟩ | (simp only [cRun]; rw [if_pos (Or.inl rfl)]; exact ⟨rfl, rfl⟩) | (simp only [cRun]; rw [if_pos (Or.inr (Int32.not_le.mp rfl))]; exact ⟨rfl, rfl⟩))
  · skip
    obtain ⟨hlg, hlv, hLGe⟩ := hLP _ rfl
    dsimp only at hlg hlv hLGe
    subst hLGe
    refine lv_ifnull hx hb dK_run_4 ?_
    refine lv_aload_n hx hb dK_run_7 rfl (lv_at hl 0 rfl) ?_
    refine s_get hx hb hw inK hown hK hH 6 (by decide) (hw _ (gwd_0 (List.mem_of_getElem? (i := 47) rfl))) (by first | exact ⟨rfl, rfl⟩ | exact ⟨by assumption, rfl⟩ | exact ⟨by assumption, by assumption⟩ | exact ⟨by omega, rfl⟩ | exact ⟨by omega, by omega⟩ | exact ⟨by decide, rfl⟩) rfl rfl rfl rfl dK_run_8 ?_
    refine lv_ifnull hx hb dK_run_11 ?_
    refine lv_iload_n hx hb dK_run_14 rfl (lv_at hl 1 rfl) ?_
    refine lv_iconst (v := 1) hx hb dK_run_15 (by decide) ?_
    refine lv_icmp_lt hx hb dK_run_16 rfl (fun h_1 => ?_) (fun h_1 => ?_)
    · skip
      refine lv_iconst (v := -1) hx hb dK_run_25 (by decide) ?_
      exact r_i hx hb hr hlk hK hH hS dK_run_26 (by first | exact ⟨rfl, rfl⟩ | (simp only [cRun]; rw [if_pos (Or.inl h_1)]; exact ⟨rfl, rfl⟩) | (simp only [cRun]; rw [if_pos (Or.inr (Int32.not_le.mp rfl))]; exact ⟨rfl, rfl⟩))
    · skip
      refine lv_iload_n hx hb dK_run_19 rfl (lv_at hl 1 rfl) ?_
      refine lv_bipush (v := 64) hx hb dK_run_20 (by decide) ?_
      refine lv_icmp_le hx hb dK_run_22 rfl (fun h_2 => ?_) (fun h_2 => ?_)
      · skip
        obtain ⟨b, hb6, rfl⟩ := ix_le 64 64 rfl (by decide) (fun q => h_1 (Int32.lt_trans q (by decide))) h_2
        have hib : ix (nI b) = b := ix_nI (by omega)
        have hn1 : ¬ (nI b < 1 ∨ 64 < nI b) := fun q => q.elim h_1 (fun q => absurd q (Int32.not_lt.mpr h_2))
        refine lv_aload_n hx hb dK_run_27 rfl (lv_at hl 0 rfl) ?_
        refine s_get hx hb hw inK hown hK hH 7 (by decide) (hw _ (gwd_1 (List.mem_of_getElem? (i := 0) rfl))) (by first | exact ⟨rfl, rfl⟩ | exact ⟨by assumption, rfl⟩ | exact ⟨by assumption, by assumption⟩ | exact ⟨by omega, rfl⟩ | exact ⟨by omega, by omega⟩ | exact ⟨by decide, rfl⟩) rfl rfl rfl rfl dK_run_28 ?_
        refine lv_iload_n hx hb dK_run_31 rfl (lv_at hl 2 rfl) ?_
        refine s_cvE (va_runV (As := [.int _]) (rest := []) ⟨hx, hb, hml, hown, hw⟩ (c_R_receiveAnswer l  (by assumption) (by assumption) (hask _ _ (by assumption) (by assumption))) (cwV 1 hw (gd_V (gwd_4 (List.mem_of_getElem? (i := 21) rfl)) (gwd_4 (List.mem_of_getElem? (i := 22) rfl)) (gwd_4 (List.mem_of_getElem? (i := 23) rfl)) (gwd_0 (List.mem_of_getElem? (i := 5) rfl)) (gwd_4 (List.mem_of_getElem? (i := 24) rfl))) rfl rfl rfl (by decide +kernel) ⟨Nat.le_of_ble_eq_true rfl, Nat.le_of_ble_eq_true rfl⟩) (gPre.V (n := (9, _, _)) hK hH (by first | exact ⟨rfl, rfl⟩ | exact ⟨by assumption, rfl⟩ | exact ⟨by assumption, by assumption⟩ | exact ⟨by omega, rfl⟩ | exact ⟨by omega, by omega⟩ | exact ⟨by decide, rfl⟩) rfl rfl) rfl rfl hl.1 rfl (lv_room (Nat.le_of_ble_eq_true rfl)) dK_run_32 ⟨Nat.zero_le _, Nat.zero_le _⟩) hS (fun H locs hH hS => ?_)
        refine lv_aload_n hx hb dK_run_35 rfl (lv_at hl 0 rfl) ?_
        refine s_get hx hb hw inK hown hK hH 7 (by decide) (hw _ (gwd_1 (List.mem_of_getElem? (i := 0) rfl))) (by first | exact ⟨rfl, rfl⟩ | exact ⟨by assumption, rfl⟩ | exact ⟨by assumption, by assumption⟩ | exact ⟨by omega, rfl⟩ | exact ⟨by omega, by omega⟩ | exact ⟨by decide, rfl⟩) rfl rfl rfl rfl dK_run_36 ?_
        refine lv_iload_n hx hb dK_run_39 rfl (lv_at hl 1 rfl) ?_
        refine lv_aload_n hx hb dK_run_40 rfl (lv_at hl 0 rfl) ?_
        refine s_get hx hb hw inK hown hK hH 6 (by decide) (hw _ (gwd_0 (List.mem_of_getElem? (i := 47) rfl))) (by first | exact ⟨rfl, rfl⟩ | exact ⟨by assumption, rfl⟩ | exact ⟨by assumption, by assumption⟩ | exact ⟨by omega, rfl⟩ | exact ⟨by omega, by omega⟩ | exact ⟨by decide, rfl⟩) rfl rfl rfl rfl dK_run_41 ?_
        refine s_ciE (va_runV (As := [.int _, .ref _]) (rest := []) ⟨hx, hb, hml, hown, hw⟩ (c_R_makeSteps l  (by assumption) (by assumption) (by omega) (sAns_pc (hpc _ _ (by assumption) (by assumption))) (hPl)) (cwV 2 hw (gd_V (gwd_4 (List.mem_of_getElem? (i := 25) rfl)) (gwd_4 (List.mem_of_getElem? (i := 26) rfl)) (gwd_4 (List.mem_of_getElem? (i := 27) rfl)) (gwd_0 (List.mem_of_getElem? (i := 5) rfl)) (gwd_4 (List.mem_of_getElem? (i := 28) rfl))) rfl rfl rfl (by decide +kernel) ⟨Nat.le_of_ble_eq_true rfl, Nat.le_of_ble_eq_true rfl⟩) (gPre.V (n := (9, _, _)) hK hH (by first | exact ⟨rfl, rfl⟩ | exact ⟨by assumption, rfl⟩ | exact ⟨by assumption, by assumption⟩ | exact ⟨by omega, rfl⟩ | exact ⟨by omega, by omega⟩ | exact ⟨by decide, rfl⟩) rfl rfl) rfl rfl hl.1 rfl (lv_room (Nat.le_of_ble_eq_true rfl)) dK_run_44 ⟨Nat.zero_le _, Nat.zero_le _⟩) hS (fun H locs hH hS => ?_)
        refine lv_istore_n hx hb dK_run_47 rfl hl (by decide) rfl (fun ls hl => ?_)
        have hl : lv_has ls 4 [(3, .int _), (0, .ref _), (1, .int _), (2, .int _)] := hl
        refine lv_aload_n hx hb dK_run_48 rfl (lv_at hl 1 rfl) ?_
        refine lv_aload_n hx hb dK_run_49 rfl (lv_at hl 1 rfl) ?_
        refine s_get hx hb hw inK hown hK hH 7 (by decide) (hw _ (gwd_1 (List.mem_of_getElem? (i := 0) rfl))) (by first | exact ⟨rfl, rfl⟩ | exact ⟨by assumption, rfl⟩ | exact ⟨by assumption, by assumption⟩ | exact ⟨by omega, rfl⟩ | exact ⟨by omega, by omega⟩ | exact ⟨by decide, rfl⟩) rfl rfl rfl rfl dK_run_50 ?_
        refine s_get hx hb hw inR hown hK hH 2 (by decide) (hw _ (gwd_2 (List.mem_of_getElem? (i := 8) rfl))) (by first | exact ⟨rfl, rfl⟩ | exact ⟨by assumption, rfl⟩ | exact ⟨by assumption, by assumption⟩ | exact ⟨by omega, rfl⟩ | exact ⟨by omega, by omega⟩ | exact ⟨by decide, rfl⟩) rfl rfl rfl rfl dK_run_53 ?_
        refine s_put hx hb hw inK tyK_ok nK hown hK hH hS 5 (by decide) (hw _ (gwd_0 (List.mem_of_getElem? (i := 46) rfl))) (by first | exact ⟨rfl, rfl⟩ | exact ⟨by assumption, rfl⟩ | exact ⟨by assumption, by assumption⟩ | exact ⟨by omega, rfl⟩ | exact ⟨by omega, by omega⟩ | exact ⟨by decide, rfl⟩) rfl rfl rfl rfl rfl rfl rfl (Nat.le_of_ble_eq_true rfl) rfl dK_run_56 (fun H locs hH hS => ?_)
        refine lv_iload_n hx hb dK_run_59 rfl (lv_at hl 0 rfl) ?_
        exact r_i hx hb hr hlk hK hH hS dK_run_60 (by simp only [cRun]; rw [if_neg hn1, hib]; exact ⟨rfl, rfl⟩)
      · skip
        refine lv_iconst (v := -1) hx hb dK_run_25 (by decide) ?_
        exact r_i hx hb hr hlk hK hH hS dK_run_26 (by first | exact ⟨rfl, rfl⟩ | (simp only [cRun]; rw [if_pos (Or.inl h_1)]; exact ⟨rfl, rfl⟩) | (simp only [cRun]; rw [if_pos (Or.inr (Int32.not_le.mp h_2))]; exact ⟨rfl, rfl⟩))
set_option maxHeartbeats 4000000 in
set_option maxRecDepth 100000 in
theorem c_K_set (l : Launch) {D : va_G} {c : Nat → ClassId} {sz : Nat} {ad : gN → Nat} {k : Nat} {I J : gI} {P : gP} {LG : Option Nat} {LP : Option (Nat × Nat)} {x y : Int32}  : Met l yK_set wK_set { frames := 1, cells := 0, slots := 0, locals := 20 } (gPre D c sz [.ref (ad (0, 0, 0)), .int x, .int y] (ad, k, I, J, P, LG, LP)) (va_Qi (fun r u => r = (cSet I LP x y).1 ∧ u = (ad, k, (cSet I LP x y).2, J, P, LG, LP)) (gB D c sz) (gA sz)) 0 0 (gA sz) := by
  refine Met.ofW (cc := cK_set) (maxL := 3) (ret := (some .boolean)) (by decide) rfl ?_
  intro p e s m args below meth cd s₁ B hml hv
  obtain ⟨rfl, hK, hH⟩ := hv
  have hx := B.exec
  have hb := B.bytes
  have hr := B.returns
  have hts := atoms_spec (ws := wK_set) B.pre
  have hw : ∀ w ∈ gWd, w.before _ s = true := fun w h => hts w (List.mem_cons_of_mem _ h)
  have hown : s.vm.findClass RK = some m.cls := findClass_of_methodNamed B.named
  have hlk := B.notSynchronized
  have hS : va_S (gA sz) s.heap s.heap [] := va_S.rf
  have hH : gW D c sz ad k I J P LG LP s.heap := hH
  have hl := lv_entry ([.ref (ad (0, 0, 0)), .int x, .int y]) (n := 3) (Nat.le_of_ble_eq_true rfl)
  rw [lg_entry_eq]
  generalize (lg_sl ([.ref (ad (0, 0, 0)), .int x, .int y]) ++ List.replicate (3 - (lg_sl ([.ref (ad (0, 0, 0)), .int x, .int y])).length) Slot.unset).toArray = ls at hl ⊢
  have hl : lv_has ls 3 [(0, .ref (ad (0, 0, 0))), (1, .int x), (2, .int y)] := hl
  refine lv_iload_n hx hb dK_set_0 rfl (lv_at hl 1 rfl) ?_
  refine s_ciE (va_runS (As := [.int _]) (rest := []) ⟨hx, hb, hml, hown, hw⟩ (c_K_isRegister l  ) (cwS 1 hw (gd_S (gwd_5 (List.mem_of_getElem? (i := 10) rfl)) (gwd_5 (List.mem_of_getElem? (i := 11) rfl)) (gwd_0 (List.mem_of_getElem? (i := 1) rfl)) (gwd_5 (List.mem_of_getElem? (i := 12) rfl))) rfl rfl rfl (by decide +kernel) ⟨Nat.le_of_ble_eq_true rfl, Nat.le_of_ble_eq_true rfl⟩) (gPre.S hK hH) rfl rfl hl.1 rfl (lv_room (Nat.le_of_ble_eq_true rfl)) dK_set_1 ⟨Nat.zero_le _, Nat.zero_le _⟩) hS (fun H locs hH hS => ?_)
  refine s_ifeq hx hb dK_set_4 rfl (fun h_1 => ?_) (fun h_1 => ?_)
  · skip
    refine lv_iconst (v := 0) hx hb dK_set_14 (by decide) ?_
    exact r_z hx hb hr hlk hK hH hS dK_set_15 (by first | exact Or.inl rfl | exact Or.inr rfl | exact bz_01 _ | assumption) (by first | (rw [cSet, if_neg (fun q => h_1 q.1)]; exact ⟨rfl, rfl⟩) | (rw [cSet, if_neg (fun q => by cases q.2)]; exact ⟨rfl, rfl⟩) | (rw [cSet, if_pos ⟨h_1, rfl⟩, hi2]; exact ⟨rfl, rfl⟩))
  · skip
    obtain ⟨i4, hi4, rfl⟩ := is4_ix h_1
    have hi2 : ix (nI i4) = i4 := ix_nI (by omega)
    refine lv_aload_n hx hb dK_set_7 rfl (lv_at hl 0 rfl) ?_
    refine s_get hx hb hw inK hown hK hH 7 (by decide) (hw _ (gwd_1 (List.mem_of_getElem? (i := 0) rfl))) (by first | exact ⟨rfl, rfl⟩ | exact ⟨by assumption, rfl⟩ | exact ⟨by assumption, by assumption⟩ | exact ⟨by omega, rfl⟩ | exact ⟨by omega, by omega⟩ | exact ⟨by decide, rfl⟩) rfl rfl rfl rfl dK_set_8 ?_
    rcases LP with _ | ⟨lg, lv⟩
    · skip
      refine lv_ifnullN hx hb dK_set_11 rfl ?_
      refine lv_aload_n hx hb dK_set_16 rfl (lv_at hl 0 rfl) ?_
      refine s_get hx hb hw inK hown hK hH 2 (by decide) (hw _ (gwd_0 (List.mem_of_getElem? (i := 43) rfl))) (by first | exact ⟨rfl, rfl⟩ | exact ⟨by assumption, rfl⟩ | exact ⟨by assumption, by assumption⟩ | exact ⟨by omega, rfl⟩ | exact ⟨by omega, by omega⟩ | exact ⟨by decide, rfl⟩) rfl rfl rfl rfl dK_set_17 ?_
      refine lv_iload_n hx hb dK_set_20 rfl (lv_at hl 1 rfl) ?_
      refine lv_iload_n hx hb dK_set_21 rfl (lv_at hl 2 rfl) ?_
      refine s_iast hx hb hK hH hS (by first | exact ⟨rfl, rfl⟩ | exact ⟨by assumption, rfl⟩ | exact ⟨by assumption, by assumption⟩ | exact ⟨by omega, rfl⟩ | exact ⟨by omega, by omega⟩ | exact ⟨by decide, rfl⟩) rfl _ (by first | rfl | assumption) (by first | assumption | decide | omega) (by decide) rfl dK_set_22 (fun H locs hH hS => ?_)
      refine lv_iconst (v := 1) hx hb dK_set_23 (by decide) ?_
      exact r_z hx hb hr hlk hK hH hS dK_set_24 (by first | exact Or.inl rfl | exact Or.inr rfl | exact bz_01 _ | assumption) (by first | (rw [cSet, if_neg (fun q => h_1 q.1)]; exact ⟨rfl, rfl⟩) | (rw [cSet, if_neg (fun q => by cases q.2)]; exact ⟨rfl, rfl⟩) | (rw [cSet, if_pos ⟨h_1, rfl⟩, hi2]; exact ⟨rfl, rfl⟩))
    · skip
      refine lv_ifnull hx hb dK_set_11 ?_
      refine lv_iconst (v := 0) hx hb dK_set_14 (by decide) ?_
      exact r_z hx hb hr hlk hK hH hS dK_set_15 (by first | exact Or.inl rfl | exact Or.inr rfl | exact bz_01 _ | assumption) (by first | (rw [cSet, if_neg (fun q => h_1 q.1)]; exact ⟨rfl, rfl⟩) | (rw [cSet, if_neg (fun q => by cases q.2)]; exact ⟨rfl, rfl⟩) | (rw [cSet, if_pos ⟨h_1, rfl⟩, hi2]; exact ⟨rfl, rfl⟩))
set_option maxHeartbeats 4000000 in
set_option maxRecDepth 100000 in
theorem c_K_register (l : Launch) {D : va_G} {c : Nat → ClassId} {sz : Nat} {ad : gN → Nat} {k : Nat} {I J : gI} {P : gP} {LG : Option Nat} {LP : Option (Nat × Nat)} {x : Int32}  : Met l yK_register wK_register { frames := 1, cells := 0, slots := 0, locals := 20 } (gPre D c sz [.ref (ad (0, 0, 0)), .int x] (ad, k, I, J, P, LG, LP)) (va_Qi (fun r u => r = cReg I LP x ∧ u = (ad, k, I, J, P, LG, LP)) (gB D c sz) (gA sz)) 0 0 (gA sz) := by
  refine Met.ofW (cc := cK_register) (maxL := 2) (ret := (some .int)) (by decide) rfl ?_
  intro p e s m args below meth cd s₁ B hml hv
  obtain ⟨rfl, hK, hH⟩ := hv
  have hx := B.exec
  have hb := B.bytes
  have hr := B.returns
  have hts := atoms_spec (ws := wK_register) B.pre
  have hw : ∀ w ∈ gWd, w.before _ s = true := fun w h => hts w (List.mem_cons_of_mem _ h)
  have hown : s.vm.findClass RK = some m.cls := findClass_of_methodNamed B.named
  have hlk := B.notSynchronized
  have hS : va_S (gA sz) s.heap s.heap [] := va_S.rf
  have hH : gW D c sz ad k I J P LG LP s.heap := hH
  have hl := lv_entry ([.ref (ad (0, 0, 0)), .int x]) (n := 2) (Nat.le_of_ble_eq_true rfl)
  rw [lg_entry_eq]
  generalize (lg_sl ([.ref (ad (0, 0, 0)), .int x]) ++ List.replicate (2 - (lg_sl ([.ref (ad (0, 0, 0)), .int x])).length) Slot.unset).toArray = ls at hl ⊢
  have hl : lv_has ls 2 [(0, .ref (ad (0, 0, 0))), (1, .int x)] := hl
  refine lv_iload_n hx hb dK_register_0 rfl (lv_at hl 1 rfl) ?_
  refine s_ciE (va_runS (As := [.int _]) (rest := []) ⟨hx, hb, hml, hown, hw⟩ (c_K_isRegister l  ) (cwS 1 hw (gd_S (gwd_5 (List.mem_of_getElem? (i := 10) rfl)) (gwd_5 (List.mem_of_getElem? (i := 11) rfl)) (gwd_0 (List.mem_of_getElem? (i := 1) rfl)) (gwd_5 (List.mem_of_getElem? (i := 12) rfl))) rfl rfl rfl (by decide +kernel) ⟨Nat.le_of_ble_eq_true rfl, Nat.le_of_ble_eq_true rfl⟩) (gPre.S hK hH) rfl rfl hl.1 rfl (lv_room (Nat.le_of_ble_eq_true rfl)) dK_register_1 ⟨Nat.zero_le _, Nat.zero_le _⟩) hS (fun H locs hH hS => ?_)
  refine s_ifeq hx hb dK_register_4 rfl (fun h_1 => ?_) (fun h_1 => ?_)
  · skip
    refine lv_iconst (v := 0) hx hb dK_register_14 (by decide) ?_
    exact r_i hx hb hr hlk hK hH hS dK_register_15 (⟨by first | (rw [cReg, if_neg (fun q => h_1 q.1)]; done) | (rw [cReg, if_neg (fun q => by cases q.2)]; done) | (rw [cReg, if_pos ⟨h_1, rfl⟩, hi2]; done), rfl⟩)
  · skip
    obtain ⟨i4, hi4, rfl⟩ := is4_ix h_1
    have hi2 : ix (nI i4) = i4 := ix_nI (by omega)
    refine lv_aload_n hx hb dK_register_7 rfl (lv_at hl 0 rfl) ?_
    refine s_get hx hb hw inK hown hK hH 7 (by decide) (hw _ (gwd_1 (List.mem_of_getElem? (i := 0) rfl))) (by first | exact ⟨rfl, rfl⟩ | exact ⟨by assumption, rfl⟩ | exact ⟨by assumption, by assumption⟩ | exact ⟨by omega, rfl⟩ | exact ⟨by omega, by omega⟩ | exact ⟨by decide, rfl⟩) rfl rfl rfl rfl dK_register_8 ?_
    rcases LP with _ | ⟨lg, lv⟩
    · skip
      refine lv_ifnullN hx hb dK_register_11 rfl ?_
      refine lv_aload_n hx hb dK_register_16 rfl (lv_at hl 0 rfl) ?_
      refine s_get hx hb hw inK hown hK hH 2 (by decide) (hw _ (gwd_0 (List.mem_of_getElem? (i := 43) rfl))) (by first | exact ⟨rfl, rfl⟩ | exact ⟨by assumption, rfl⟩ | exact ⟨by assumption, by assumption⟩ | exact ⟨by omega, rfl⟩ | exact ⟨by omega, by omega⟩ | exact ⟨by decide, rfl⟩) rfl rfl rfl rfl dK_register_17 ?_
      refine lv_iload_n hx hb dK_register_20 rfl (lv_at hl 1 rfl) ?_
      refine s_iald hx hb hK hH (by first | exact ⟨rfl, rfl⟩ | exact ⟨by assumption, rfl⟩ | exact ⟨by assumption, by assumption⟩ | exact ⟨by omega, rfl⟩ | exact ⟨by omega, by omega⟩ | exact ⟨by decide, rfl⟩) rfl _ (by first | rfl | assumption) (by first | assumption | decide | omega) (by decide) dK_register_21 ?_
      exact r_i hx hb hr hlk hK hH hS dK_register_22 (⟨by first | (rw [cReg, if_neg (fun q => h_1 q.1)]; done) | (rw [cReg, if_neg (fun q => by cases q.2)]; done) | (rw [cReg, if_pos ⟨h_1, rfl⟩, hi2]; done), rfl⟩)
    · skip
      refine lv_ifnull hx hb dK_register_11 ?_
      refine lv_iconst (v := 0) hx hb dK_register_14 (by decide) ?_
      exact r_i hx hb hr hlk hK hH hS dK_register_15 (⟨by first | (rw [cReg, if_neg (fun q => h_1 q.1)]; done) | (rw [cReg, if_neg (fun q => by cases q.2)]; done) | (rw [cReg, if_pos ⟨h_1, rfl⟩, hi2]; done), rfl⟩)
