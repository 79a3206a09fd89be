set_option maxHeartbeats 4000000 in
set_option maxRecDepth 100000 in
theorem c_G_needsTable (l : Launch) {D : va_G} {c : Nat → ClassId} {sz : Nat} {ad : gN → Nat} {k : Nat} {I J : gI} {P : gP} {LG : Option Nat} {LP : Option (Nat × Nat)} {g t z : Nat} (hg : g < k) (hz : z = 4 ∨ z = 16) (ht : t < 64 / z) (hPl : ∀ g a q, P g a = some q → q < 24) : Met l yG_needsTable wG_needsTable { frames := 0, cells := 0, slots := 0, locals := 0 } (gPre D c sz [.ref (ad (6, g, 0)), .int (nI t), .int (nI z)] (ad, k, I, J, P, LG, LP)) (va_Qi (fun r u => r = bz (sNd P g t z = true) ∧ u = (ad, k, I, J, P, LG, LP)) (gB D c sz) (gA sz)) 0 0 (gA sz) := by
  refine Met.ofW (cc := cG_needsTable) (maxL := 4) (ret := (some .boolean)) (by decide) rfl ?_
  intro p e s m args below meth cd s₁ B hml hv
  obtain ⟨rfl, hK, hH⟩ := hv
  have hx := B.exec
  have hb := B.bytes
  have hr := B.returns
  have hts := atoms_spec (ws := wG_needsTable) B.pre
  have hw : ∀ w ∈ gWd, w.before _ s = true := fun w h => hts w (List.mem_cons_of_mem _ h)
  have hown : s.vm.findClass RG = some m.cls := findClass_of_methodNamed B.named
  have hlk := B.notSynchronized
  have hS : va_S (gA sz) s.heap s.heap [] := va_S.rf
  have hH : gW D c sz ad k I J P LG LP s.heap := hH
  have hl := lv_entry ([.ref (ad (6, g, 0)), .int (nI t), .int (nI z)]) (n := 4) (Nat.le_of_ble_eq_true rfl)
  rw [lg_entry_eq]
  generalize (lg_sl ([.ref (ad (6, g, 0)), .int (nI t), .int (nI z)]) ++ List.replicate (4 - (lg_sl ([.ref (ad (6, g, 0)), .int (nI t), .int (nI z)])).length) Slot.unset).toArray = ls at hl ⊢
  have hl : lv_has ls 4 [(0, .ref (ad (6, g, 0))), (1, .int (nI t)), (2, .int (nI z))] := hl
  have hz0 : 0 < z := by omega
  have key : ∀ (n i : Nat), i + n = z → (∀ j, j < i → P g (t * z + j) = none) → ∀ ls : Array Slot, lv_has ls 4 [(3, .int (nI i)), (0, .ref (ad (6, g, 0))), (1, .int (nI t)), (2, .int (nI z))] → W p l e (headSpec wG_needsTable { frames := 0, cells := 0, slots := 0, locals := 0 }).room s m ([.ref (ad (6, g, 0)), .int (nI t), .int (nI z)] : List Value).toArray below meth cd s.heap [] 0 0 (MQ below (va_Qi (fun r u => r = bz (sNd P g t z = true) ∧ u = (ad, k, I, J, P, LG, LP)) (gB D c sz) (gA sz)) ([.ref (ad (6, g, 0)), .int (nI t), .int (nI z)] : List Value).toArray s 0 0 (gA sz)) (F0 m 2 ls []) := by
    intro n
    induction n with
    | zero =>
      intro i hi hn ls hl
      refine lv_iload_n hx hb dG_needsTable_2 rfl (lv_at hl 0 rfl) ?_
      refine lv_iload_n hx hb dG_needsTable_3 rfl (lv_at hl 3 rfl) ?_
      refine lv_icmp_ge hx hb dG_needsTable_4 rfl (fun h_1 => ?_) (fun h_1 => ?_)
      · skip
        refine lv_iconst (v := 0) hx hb dG_needsTable_28 (by decide) ?_
        exact r_z hx hb hr hlk hK hH hS dG_needsTable_29 (by first | exact Or.inl rfl | exact Or.inr rfl | exact bz_01 _ | assumption) (⟨(bz_f (fun q => by obtain ⟨j, hj, hs⟩ := anyB_iff.mp q; rw [hn j (by omega)] at hs; cases hs)).symm, rfl⟩)
      · exact absurd (nI_le (show z ≤ i by omega) (by omega)) h_1
    | succ n ih =>
      intro i hi hn ls hl
      refine lv_iload_n hx hb dG_needsTable_2 rfl (lv_at hl 0 rfl) ?_
      refine lv_iload_n hx hb dG_needsTable_3 rfl (lv_at hl 3 rfl) ?_
      refine lv_icmp_ge hx hb dG_needsTable_4 rfl (fun h_2 => ?_) (fun h_2 => ?_)
      · exact absurd h_2 (nI_ge (by omega) (by omega))
      · skip
        refine lv_aload_n hx hb dG_needsTable_7 rfl (lv_at hl 1 rfl) ?_
        refine s_get hx hb hw inG hown hK hH 1 (by decide) (hw _ (gwd_2 (List.mem_of_getElem? (i := 15) rfl))) (by first | exact ⟨rfl, rfl⟩ | exact ⟨by assumption, rfl⟩ | exact ⟨by assumption, by assumption⟩ | exact ⟨by omega, rfl⟩ | exact ⟨by omega, by omega⟩ | exact ⟨by decide, rfl⟩) rfl rfl rfl rfl dG_needsTable_8 ?_
        refine lv_iload_n hx hb dG_needsTable_11 rfl (lv_at hl 2 rfl) ?_
        refine lv_iload_n hx hb dG_needsTable_12 rfl (lv_at hl 3 rfl) ?_
        refine lv_imul hx hb dG_needsTable_13 ?_
        refine lv_iload_n hx hb dG_needsTable_14 rfl (lv_at hl 0 rfl) ?_
        refine lv_iadd hx hb dG_needsTable_15 ?_
        refine s_aaL hx hb hK hH (by first | assumption | decide | omega) (t * z + i) (by rw [pk_mul, nI_add]) (by rcases hz with rfl | rfl <;> omega) dG_needsTable_16 (fun q_4 h_3 => ?_) (fun h_3 => ?_)
        · have hlt_q_4 : q_4 < 24 := hPl _ _ _ h_3
          refine lv_ifnull hx hb dG_needsTable_17 ?_
          refine lv_iconst (v := 1) hx hb dG_needsTable_20 (by decide) ?_
          exact r_z hx hb hr hlk hK hH hS dG_needsTable_21 (by first | exact Or.inl rfl | exact Or.inr rfl | exact bz_01 _ | assumption) (⟨(bz_t (anyB_iff.mpr ⟨i, by omega, by rw [h_3]; rfl⟩)).symm, rfl⟩)
        · skip
          refine lv_ifnullN hx hb dG_needsTable_17 rfl ?_
          refine lv_iinc (k := 0) (v := nI (i + 1)) hx hb dG_needsTable_22 hl rfl (by rw [nI_succ]; rfl) (by decide) rfl (fun ls hl => ?_)
          have hl : lv_has ls 4 [(3, .int _), (0, .ref _), (1, .int _), (2, .int _)] := hl
          refine lv_goto hx hb dG_needsTable_25 rfl ?_
          exact ih (i + 1) (by omega) (fun j hj => by rcases Nat.lt_succ_iff_lt_or_eq.mp hj with h | rfl; exact hn j h; exact h_3) ls (lv_sub hl [0, 1, 2, 3] rfl)
  refine lv_iconst (v := 0) hx hb dG_needsTable_0 (by decide) ?_
  refine lv_istore_n hx hb dG_needsTable_1 rfl hl (by decide) rfl (fun ls hl => ?_)
  have hl : lv_has ls 4 [(3, .int _), (0, .ref _), (1, .int _), (2, .int _)] := hl
  exact key z 0 (by omega) (fun j hj => by omega) ls (lv_sub hl [0, 1, 2, 3] rfl)
set_option maxHeartbeats 4000000 in
set_option maxRecDepth 100000 in
theorem c_G_countTablesOf (l : Launch) {D : va_G} {c : Nat → ClassId} {sz : Nat} {ad : gN → Nat} {k : Nat} {I J : gI} {P : gP} {LG : Option Nat} {LP : Option (Nat × Nat)} {g z : Nat} (hg : g < k) (hz : z = 4 ∨ z = 16) (hPl : ∀ g a q, P g a = some q → q < 24) : Met l yG_countTablesOf wG_countTablesOf { frames := 1, cells := 0, slots := 0, locals := 23 } (gPre D c sz [.ref (ad (6, g, 0)), .int (nI z)] (ad, k, I, J, P, LG, LP)) (va_Qi (fun r u => r = nI (sCnt P g z) ∧ u = (ad, k, I, J, P, LG, LP)) (gB D c sz) (gA sz)) 0 0 (gA sz) := by
  refine Met.ofW (cc := cG_countTablesOf) (maxL := 4) (ret := (some .int)) (by decide) rfl ?_
  intro p e s m args below meth cd s₁ B hml hv
  obtain ⟨rfl, hK, hH⟩ := hv
  have hx := B.exec
  have hb := B.bytes
  have hr := B.returns
  have hts := atoms_spec (ws := wG_countTablesOf) B.pre
  have hw : ∀ w ∈ gWd, w.before _ s = true := fun w h => hts w (List.mem_cons_of_mem _ h)
  have hown : s.vm.findClass RG = some m.cls := findClass_of_methodNamed B.named
  have hlk := B.notSynchronized
  have hS : va_S (gA sz) s.heap s.heap [] := va_S.rf
  have hH : gW D c sz ad k I J P LG LP s.heap := hH
  have hl := lv_entry ([.ref (ad (6, g, 0)), .int (nI z)]) (n := 4) (Nat.le_of_ble_eq_true rfl)
  rw [lg_entry_eq]
  generalize (lg_sl ([.ref (ad (6, g, 0)), .int (nI z)]) ++ List.replicate (4 - (lg_sl ([.ref (ad (6, g, 0)), .int (nI z)])).length) Slot.unset).toArray = ls at hl ⊢
  have hl : lv_has ls 4 [(0, .ref (ad (6, g, 0))), (1, .int (nI z))] := hl
  have hz0 : 0 < z := by omega
  have hzq : 64 / z ≤ 64 := Nat.div_le_self 64 z
  have h64 : (64 : Int32) / nI z = nI (64 / z) := pk_div (a := 64) (by decide) hz0 (by omega)
  have hzn : ¬ nI z = 0 := nI_ne0 hz0 (by omega)
  have key : ∀ (n i a : Nat), i + n = 64 / z → a = cntB (fun t => sNd P g t z) i → ∀ ls : Array Slot, lv_has ls 4 [(3, .int (nI i)), (2, .int (nI a)), (0, .ref (ad (6, g, 0))), (1, .int (nI z))] → ∀ (H : Heap) (locs : List Loc), gW D c sz ad k I J P LG LP H → va_S (gA sz) s.heap H locs → W p l e (headSpec wG_countTablesOf { frames := 1, cells := 0, slots := 0, locals := 23 }).room s m ([.ref (ad (6, g, 0)), .int (nI z)] : List Value).toArray below meth cd H locs 0 0 (MQ below (va_Qi (fun r u => r = nI (sCnt P g z) ∧ u = (ad, k, I, J, P, LG, LP)) (gB D c sz) (gA sz)) ([.ref (ad (6, g, 0)), .int (nI z)] : List Value).toArray s 0 0 (gA sz)) (F0 m 4 ls []) := by
    intro n
    induction n with
    | zero =>
      intro i a hi ha ls hl H locs hH hS
      refine lv_iload_n hx hb dG_countTablesOf_4 rfl (lv_at hl 0 rfl) ?_
      refine lv_bipush (v := 64) hx hb dG_countTablesOf_5 (by decide) ?_
      refine lv_iload_n hx hb dG_countTablesOf_7 rfl (lv_at hl 3 rfl) ?_
      refine lv_idiv hx hb dG_countTablesOf_8 hzn ?_
      refine lv_icmp_ge hx hb dG_countTablesOf_9 rfl (fun h_1 => ?_) (fun h_1 => ?_)
      · skip
        refine lv_iload_n hx hb dG_countTablesOf_30 rfl (lv_at hl 1 rfl) ?_
        exact r_i hx hb hr hlk hK hH hS dG_countTablesOf_31 (⟨by rw [ha, show i = 64 / z by omega]; rfl, rfl⟩)
      · exact absurd (by rw [h64]; exact nI_le (by omega) (by omega)) h_1
    | succ n ih =>
      intro i a hi ha ls hl H locs hH hS
      refine lv_iload_n hx hb dG_countTablesOf_4 rfl (lv_at hl 0 rfl) ?_
      refine lv_bipush (v := 64) hx hb dG_countTablesOf_5 (by decide) ?_
      refine lv_iload_n hx hb dG_countTablesOf_7 rfl (lv_at hl 3 rfl) ?_
      refine lv_idiv hx hb dG_countTablesOf_8 hzn ?_
      refine lv_icmp_ge hx hb dG_countTablesOf_9 rfl (fun h_2 => ?_) (fun h_2 => ?_)
      · exact absurd (by rw [← h64]; exact h_2) (nI_ge (show i < 64 / z by omega) (by omega))
      · skip
        refine lv_aload_n hx hb dG_countTablesOf_12 rfl (lv_at hl 2 rfl) ?_
        refine lv_iload_n hx hb dG_countTablesOf_13 rfl (lv_at hl 0 rfl) ?_
        refine lv_iload_n hx hb dG_countTablesOf_14 rfl (lv_at hl 3 rfl) ?_
        refine s_ciE (va_runV (As := [.int _, .int _]) (rest := []) ⟨hx, hb, hml, hown, hw⟩ (c_G_needsTable l  (by assumption) (by first | assumption | exact Or.inl rfl | exact Or.inr rfl) (by first | assumption | omega) (hPl)) (cwV 2 hw (gd_V (gwd_3 (List.mem_of_getElem? (i := 17) rfl)) (gwd_3 (List.mem_of_getElem? (i := 18) rfl)) (gwd_9 (List.mem_of_getElem? (i := 16) rfl)) (gwd_0 (List.mem_of_getElem? (i := 4) rfl)) (gwd_3 (List.mem_of_getElem? (i := 19) rfl))) rfl rfl rfl (by decide +kernel) ⟨Nat.le_of_ble_eq_true rfl, Nat.le_of_ble_eq_true rfl⟩) (gPre.V (n := (6, _, 0)) hK hH (by first | exact ⟨rfl, rfl⟩ | exact ⟨by assumption, rfl⟩ | exact ⟨by assumption, by assumption⟩ | exact ⟨by omega, rfl⟩ | exact ⟨by omega, by omega⟩ | exact ⟨by decide, rfl⟩) rfl rfl) rfl rfl hl.1 rfl (lv_room (Nat.le_of_ble_eq_true rfl)) dG_countTablesOf_15 ⟨Nat.zero_le _, Nat.zero_le _⟩) hS (fun H locs hH hS => ?_)
        refine s_ifeq hx hb dG_countTablesOf_18 rfl (fun h_3 => ?_) (fun h_3 => ?_)
        · skip
          refine lv_iinc (k := 0) (v := nI (i + 1)) hx hb dG_countTablesOf_24 hl rfl (by rw [nI_succ]; rfl) (by decide) rfl (fun ls hl => ?_)
          have hl : lv_has ls 4 [(3, .int _), (2, .int _), (0, .ref _), (1, .int _)] := hl
          refine lv_goto hx hb dG_countTablesOf_27 rfl ?_
          exact ih (i + 1) _ (by omega) (by simp [cntB, ha, h_3]) ls (lv_sub hl [0, 1, 2, 3] rfl) H locs hH hS
        · skip
          refine lv_iinc (k := 1) (v := nI (a + 1)) hx hb dG_countTablesOf_21 hl rfl (by rw [nI_succ]; rfl) (by decide) rfl (fun ls hl => ?_)
          have hl : lv_has ls 4 [(2, .int _), (3, .int _), (0, .ref _), (1, .int _)] := hl
          refine lv_iinc (k := 1) (v := nI (i + 1)) hx hb dG_countTablesOf_24 hl rfl (by rw [nI_succ]; rfl) (by decide) rfl (fun ls hl => ?_)
          have hl : lv_has ls 4 [(3, .int _), (2, .int _), (0, .ref _), (1, .int _)] := hl
          refine lv_goto hx hb dG_countTablesOf_27 rfl ?_
          exact ih (i + 1) _ (by omega) (by simp [cntB, ha, h_3]) ls (lv_sub hl [0, 1, 2, 3] rfl) H locs hH hS
  refine lv_iconst (v := 0) hx hb dG_countTablesOf_0 (by decide) ?_
  refine lv_istore_n hx hb dG_countTablesOf_1 rfl hl (by decide) rfl (fun ls hl => ?_)
  have hl : lv_has ls 4 [(2, .int _), (0, .ref _), (1, .int _)] := hl
  refine lv_iconst (v := 0) hx hb dG_countTablesOf_2 (by decide) ?_
  refine lv_istore_n hx hb dG_countTablesOf_3 rfl hl (by decide) rfl (fun ls hl => ?_)
  have hl : lv_has ls 4 [(3, .int _), (2, .int _), (0, .ref _), (1, .int _)] := hl
  exact key (64 / z) 0 0 (by omega) rfl ls (lv_sub hl [0, 1, 2, 3] rfl) s.heap [] hH hS
set_option maxHeartbeats 4000000 in
set_option maxRecDepth 100000 in
theorem c_G_countTables (l : Launch) {D : va_G} {c : Nat → ClassId} {sz : Nat} {ad : gN → Nat} {k : Nat} {I J : gI} {P : gP} {LG : Option Nat} {LP : Option (Nat × Nat)} {g : Nat} (hg : g < k) (hPl : ∀ g a q, P g a = some q → q < 24) : Met l yG_countTables wG_countTables { frames := 2, cells := 0, slots := 0, locals := 46 } (gPre D c sz [.ref (ad (6, g, 0))] (ad, k, I, J, P, LG, LP)) (va_Qi (fun r u => r = sTab P g ∧ u = (ad, k, I, J, P, LG, LP)) (gB D c sz) (gA sz)) 0 0 (gA sz) := by
  refine Met.ofW (cc := cG_countTables) (maxL := 1) (ret := (some .int)) (by decide) rfl ?_
  intro p e s m args below meth cd s₁ B hml hv
  obtain ⟨rfl, hK, hH⟩ := hv
  have hx := B.exec
  have hb := B.bytes
  have hr := B.returns
  have hts := atoms_spec (ws := wG_countTables) B.pre
  have hw : ∀ w ∈ gWd, w.before _ s = true := fun w h => hts w (List.mem_cons_of_mem _ h)
  have hown : s.vm.findClass RG = some m.cls := findClass_of_methodNamed B.named
  have hlk := B.notSynchronized
  have hS : va_S (gA sz) s.heap s.heap [] := va_S.rf
  have hH : gW D c sz ad k I J P LG LP s.heap := hH
  have hl := lv_entry ([.ref (ad (6, g, 0))]) (n := 1) (Nat.le_of_ble_eq_true rfl)
  rw [lg_entry_eq]
  generalize (lg_sl ([.ref (ad (6, g, 0))]) ++ List.replicate (1 - (lg_sl ([.ref (ad (6, g, 0))])).length) Slot.unset).toArray = ls at hl ⊢
  have hl : lv_has ls 1 [(0, .ref (ad (6, g, 0)))] := hl
  refine lv_aload_n hx hb dG_countTables_0 rfl (lv_at hl 0 rfl) ?_
  refine lv_bipush (v := 16) hx hb dG_countTables_1 (by decide) ?_
  refine s_ciE (va_runV (As := [.int _]) (rest := []) ⟨hx, hb, hml, hown, hw⟩ (c_G_countTablesOf l (z := 16) (by assumption) (by first | assumption | exact Or.inl rfl | exact Or.inr rfl) (hPl)) (cwV 1 hw (gd_V (gwd_3 (List.mem_of_getElem? (i := 14) rfl)) (gwd_3 (List.mem_of_getElem? (i := 15) rfl)) (gwd_9 (List.mem_of_getElem? (i := 15) rfl)) (gwd_0 (List.mem_of_getElem? (i := 4) rfl)) (gwd_3 (List.mem_of_getElem? (i := 16) rfl))) rfl rfl rfl (by decide +kernel) ⟨Nat.le_of_ble_eq_true rfl, Nat.le_of_ble_eq_true rfl⟩) (gPre.V (n := (6, _, 0)) hK hH (by first | exact ⟨rfl, rfl⟩ | exact ⟨by assumption, rfl⟩ | exact ⟨by assumption, by assumption⟩ | exact ⟨by omega, rfl⟩ | exact ⟨by omega, by omega⟩ | exact ⟨by decide, rfl⟩) rfl rfl) rfl rfl hl.1 rfl (lv_room (Nat.le_of_ble_eq_true rfl)) dG_countTables_3 ⟨Nat.zero_le _, Nat.zero_le _⟩) hS (fun H locs hH hS => ?_)
  refine lv_aload_n hx hb dG_countTables_6 rfl (lv_at hl 0 rfl) ?_
  refine lv_iconst (v := 4) hx hb dG_countTables_7 (by decide) ?_
  refine s_ciE (va_runV (As := [.int _]) (rest := [.int _]) ⟨hx, hb, hml, hown, hw⟩ (c_G_countTablesOf l (z := 4) (by assumption) (by first | assumption | exact Or.inl rfl | exact Or.inr rfl) (hPl)) (cwV 1 hw (gd_V (gwd_3 (List.mem_of_getElem? (i := 14) rfl)) (gwd_3 (List.mem_of_getElem? (i := 15) rfl)) (gwd_9 (List.mem_of_getElem? (i := 15) rfl)) (gwd_0 (List.mem_of_getElem? (i := 4) rfl)) (gwd_3 (List.mem_of_getElem? (i := 16) rfl))) rfl rfl rfl (by decide +kernel) ⟨Nat.le_of_ble_eq_true rfl, Nat.le_of_ble_eq_true rfl⟩) (gPre.V (n := (6, _, 0)) hK hH (by first | exact ⟨rfl, rfl⟩ | exact ⟨by assumption, rfl⟩ | exact ⟨by assumption, by assumption⟩ | exact ⟨by omega, rfl⟩ | exact ⟨by omega, by omega⟩ | exact ⟨by decide, rfl⟩) rfl rfl) rfl rfl hl.1 rfl (lv_room (Nat.le_of_ble_eq_true rfl)) dG_countTables_8 ⟨Nat.zero_le _, Nat.zero_le _⟩) hS (fun H locs hH hS => ?_)
  refine lv_iadd hx hb dG_countTables_11 ?_
  exact r_i hx hb hr hlk hK hH hS dG_countTables_12 (⟨rfl, rfl⟩)
set_option maxHeartbeats 4000000 in
set_option maxRecDepth 100000 in
theorem c_G_poolSize (l : Launch) {D : va_G} {c : Nat → ClassId} {sz : Nat} {ad : gN → Nat} {k : Nat} {I J : gI} {P : gP} {LG : Option Nat} {LP : Option (Nat × Nat)} {g : Nat} (hg : g < k) (hPl : ∀ g a q, P g a = some q → q < 24) : Met l yG_poolSize wG_poolSize { frames := 3, cells := 0, slots := 0, locals := 66 } (gPre D c sz [.ref (ad (6, g, 0))] (ad, k, I, J, P, LG, LP)) (va_Qi (fun r u => r = sPool I P g ∧ u = (ad, k, I, J, P, LG, LP)) (gB D c sz) (gA sz)) 0 0 (gA sz) := by
  refine Met.ofW (cc := cG_poolSize) (maxL := 1) (ret := (some .int)) (by decide) rfl ?_
  intro p e s m args below meth cd s₁ B hml hv
  obtain ⟨rfl, hK, hH⟩ := hv
  have hx := B.exec
  have hb := B.bytes
  have hr := B.returns
  have hts := atoms_spec (ws := wG_poolSize) B.pre
  have hw : ∀ w ∈ gWd, w.before _ s = true := fun w h => hts w (List.mem_cons_of_mem _ h)
  have hown : s.vm.findClass RG = some m.cls := findClass_of_methodNamed B.named
  have hlk := B.notSynchronized
  have hS : va_S (gA sz) s.heap s.heap [] := va_S.rf
  have hH : gW D c sz ad k I J P LG LP s.heap := hH
  have hl := lv_entry ([.ref (ad (6, g, 0))]) (n := 1) (Nat.le_of_ble_eq_true rfl)
  rw [lg_entry_eq]
  generalize (lg_sl ([.ref (ad (6, g, 0))]) ++ List.replicate (1 - (lg_sl ([.ref (ad (6, g, 0))])).length) Slot.unset).toArray = ls at hl ⊢
  have hl : lv_has ls 1 [(0, .ref (ad (6, g, 0)))] := hl
  refine lv_aload_n hx hb dG_poolSize_0 rfl (lv_at hl 0 rfl) ?_
  refine s_get hx hb hw inG hown hK hH 5 (by decide) (hw _ (gwd_2 (List.mem_of_getElem? (i := 22) rfl))) (by first | exact ⟨rfl, rfl⟩ | exact ⟨by assumption, rfl⟩ | exact ⟨by assumption, by assumption⟩ | exact ⟨by omega, rfl⟩ | exact ⟨by omega, by omega⟩ | exact ⟨by decide, rfl⟩) rfl rfl rfl rfl dG_poolSize_1 ?_
  refine lv_aload_n hx hb dG_poolSize_4 rfl (lv_at hl 0 rfl) ?_
  refine s_ciE (va_runV (As := []) (rest := [.int _]) ⟨hx, hb, hml, hown, hw⟩ (c_G_countTables l  (by assumption) (hPl)) (cwV 0 hw (gd_V (gwd_3 (List.mem_of_getElem? (i := 10) rfl)) (gwd_3 (List.mem_of_getElem? (i := 11) rfl)) (gwd_3 (List.mem_of_getElem? (i := 12) rfl)) (gwd_0 (List.mem_of_getElem? (i := 4) rfl)) (gwd_3 (List.mem_of_getElem? (i := 13) rfl))) rfl rfl rfl (by decide +kernel) ⟨Nat.le_of_ble_eq_true rfl, Nat.le_of_ble_eq_true rfl⟩) (gPre.V (n := (6, _, 0)) hK hH (by first | exact ⟨rfl, rfl⟩ | exact ⟨by assumption, rfl⟩ | exact ⟨by assumption, by assumption⟩ | exact ⟨by omega, rfl⟩ | exact ⟨by omega, by omega⟩ | exact ⟨by decide, rfl⟩) rfl rfl) rfl rfl hl.1 rfl (lv_room (Nat.le_of_ble_eq_true rfl)) dG_poolSize_5 ⟨Nat.zero_le _, Nat.zero_le _⟩) hS (fun H locs hH hS => ?_)
  refine lv_isub hx hb dG_poolSize_8 ?_
  exact r_i hx hb hr hlk hK hH hS dG_poolSize_9 (⟨rfl, rfl⟩)
