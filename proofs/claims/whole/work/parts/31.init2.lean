def mJ0 : gI := fun n f => if n = (11, 0, 0) ∧ f = 13 then -1 else 0
def mNm (n : gN) : Prop := n = (12, 0, 0) ∨ n = (12, 1, 0) ∨ n = (12, 2, 0) ∨ n = (12, 3, 0) ∨ n = (12, 4, 0) ∨ n = (13, 5, 0) ∨ n = (13, 6, 0) ∨ n = (13, 8, 0) ∨ n = (13, 9, 0) ∨ n = (12, 10, 0) ∨ n = (12, 11, 0) ∨ n = (12, 12, 0) ∨ n = (12, 15, 0)
/-- the cells of the reference when it is new -/
def mV0 (c : Nat → ClassId) (ad : gN → Nat) (V : gN → va_E) : gN → va_E := fun n => if 11 ≤ n.1 then gE c ad 0 (fun _ => 0) (mJ0 n) (fun _ _ => none) none none n else V n
set_option maxHeartbeats 4000000 in
set_option maxRecDepth 100000 in
theorem c_M_init (l : Launch) {D : va_G} {c : Nat → ClassId} {sz : Nat} {ad : gN → Nat} {dm : gN → Prop} {V : gN → va_E} {h0 : Nat} (e0 : ad (11, 0, 0) = h0) (hn : dm (11, 0, 0)) (hd : ∀ n, dm n → n = (11, 0, 0) ∨ n.1 < 11) (hV : V (11, 0, 0) = .inr (4, [.null, .null, .null, .null, .null, .null, .null, .int 0, .null, .null, .null, .null, .null, .int 0, .int 0, .null, .int 0])) : Met l yM_init wM_init { frames := 1, cells := 13, slots := 342, locals := 12 } (va_Pc [.ref h0] (gRB D c sz ad dm V)) (va_Qv (fun ad2 : gN → Nat => ∀ n, dm n → ad2 n = ad n) (fun ad2 => gRB D c sz ad2 (fun n => dm n ∨ mNm n) (mV0 c ad2 V)) (gA sz)) 13 342 (gA sz) := by
  refine Met.ofW (cc := cM_init) (maxL := 1) (ret := none) (by decide) rfl ?_
  intro p e s m args below meth cd s₁ B hml hv
  obtain ⟨rfl, hK, hH⟩ := hv
  have hx := B.exec
  have hb := B.bytes
  have hr := B.returns
  have hts := atoms_spec (ws := wM_init) B.pre
  have hw : ∀ w ∈ gWd, w.before _ s = true := fun w h => hts w (List.mem_cons_of_mem _ h)
  have hown : s.vm.findClass RM = some m.cls := findClass_of_methodNamed B.named
  have hlk := B.notSynchronized
  have hin : meth.name = "<init>" := (name_of_methodNamed B.named B.method).1
  have hS : va_S (gA sz) s.heap s.heap [] := va_S.rf
  have hl := lv_entry ([.ref h0]) (n := 1) (Nat.le_of_ble_eq_true rfl)
  rw [lg_entry_eq]
  generalize (lg_sl ([.ref h0]) ++ List.replicate (1 - (lg_sl ([.ref h0])).length) Slot.unset).toArray = ls at hl ⊢
  have hl : lv_has ls 1 [(0, .ref h0)] := hl
  have hA := gH.sz hH hn
  rw [← e0] at hl
  have hd12 : ∀ f, ¬ dm (12, f, 0) := fun f z => by rcases hd _ z with z | z; (cases z); (exact absurd (show 12 < 11 from z) (by decide))
  have hd13 : ∀ f, ¬ dm (13, f, 0) := fun f z => by rcases hd _ z with z | z; (cases z); (exact absurd (show 13 < 11 from z) (by decide))
  refine lv_aload_n hx hb dM_init_0 rfl (lv_at hl 0 rfl) ?_
  refine W.objInit hx hb hown (hw _ (gwd_5 (List.mem_of_getElem? (i := 39) rfl))) (hw _ (gwd_0 (List.mem_of_getElem? (i := 12) rfl))) (hw _ (gwd_0 (List.mem_of_getElem? (i := 13) rfl))) rfl (by rw [hml]; exact hl.1) rfl dM_init_1 (Nat.le_of_ble_eq_true rfl) (Nat.le_of_ble_eq_true rfl) ?_
  refine W.eq (g2 := F0 m 4 ls []) rfl ?_
  refine lv_aload_n hx hb dM_init_4 rfl (lv_at hl 0 rfl) ?_
  refine lv_bipush (v := 96) hx hb dM_init_5 (by decide) ?_
  refine gx_newa (atype := .int) (ty := .int) (N' := 96) (a0 := (96, .inl (fun _ => 0))) hx hb (hw _ (gwd_0 (List.mem_of_getElem? (i := 39) rfl))) rfl hK.1 hH hS hA (12, 0, 0) (by simp [hd12, hd13]) 0 rfl (fun _ h1 h2 => ra_int h1 h2) (fun _ => rfl) (by decide) (by decide) (by decide) (Nat.le_of_ble_eq_true rfl) (Nat.le_of_ble_eq_true rfl) dM_init_7 (fun Q_0 H hH hS => ?_)
  have e1 : gu ad (12, 0, 0) Q_0 (11, 0, 0) = ad (11, 0, 0) := gu_n _ _ (by decide)
  rw [← e1] at hl
  rw [← e1]
  clear e1
  refine gx_putF (n := (11, 0, 0)) (fs := [.null, .null, .null, .null, .null, .null, .null, .int 0, .null, .null, .null, .null, .null, .int 0, .int 0, .null, .int 0]) (v := .ref Q_0) (ty := .array .int) hx hb hw inM tyM tyM_ok nM hown hK.1 hH hS (by simp [hn]) (by rw [gu_n _ _ (by decide)]; exact hV) rfl 0 (by decide) (hw _ (gwd_5 (List.mem_of_getElem? (i := 40) rfl))) (fun _ h => h) rfl hin rfl (by decide +kernel) rfl rfl (Nat.le_of_ble_eq_true rfl) dM_init_9 (fun H locs hH hS => ?_)
  refine lv_aload_n hx hb dM_init_12 rfl (lv_at hl 0 rfl) ?_
  refine lv_bipush (v := 24) hx hb dM_init_13 (by decide) ?_
  refine gx_newa (atype := .int) (ty := .int) (N' := 24) (a0 := (24, .inl (fun _ => 0))) hx hb (hw _ (gwd_0 (List.mem_of_getElem? (i := 39) rfl))) rfl hK.1 hH hS hA (12, 1, 0) (by simp [hd12, hd13]) 0 rfl (fun _ h1 h2 => ra_int h1 h2) (fun _ => rfl) (by decide) (by decide) (by decide) (Nat.le_of_ble_eq_true rfl) (Nat.le_of_ble_eq_true rfl) dM_init_15 (fun Q_1 H hH hS => ?_)
  have e1 : gu (gu ad (12, 0, 0) Q_0) (12, 1, 0) Q_1 (11, 0, 0) = (gu ad (12, 0, 0) Q_0) (11, 0, 0) := gu_n _ _ (by decide)
  rw [← e1] at hl
  rw [← e1]
  clear e1
  refine gx_putF (n := (11, 0, 0)) (fs := [.ref Q_0, .null, .null, .null, .null, .null, .null, .int 0, .null, .null, .null, .null, .null, .int 0, .int 0, .null, .int 0]) (v := .ref Q_1) (ty := .array .int) hx hb hw inM tyM tyM_ok nM hown hK.1 hH hS (by simp [hn]) (by rw [gu_n _ _ (by decide), gu_s]; rfl) rfl 1 (by decide) (hw _ (gwd_5 (List.mem_of_getElem? (i := 41) rfl))) (fun _ h => h) rfl hin rfl (by decide +kernel) rfl rfl (Nat.le_of_ble_eq_true rfl) dM_init_17 (fun H locs hH hS => ?_)
  refine lv_aload_n hx hb dM_init_20 rfl (lv_at hl 0 rfl) ?_
  refine lv_bipush (v := 24) hx hb dM_init_21 (by decide) ?_
  refine gx_newa (atype := .int) (ty := .int) (N' := 24) (a0 := (24, .inl (fun _ => 0))) hx hb (hw _ (gwd_0 (List.mem_of_getElem? (i := 39) rfl))) rfl hK.1 hH hS hA (12, 2, 0) (by simp [hd12, hd13]) 0 rfl (fun _ h1 h2 => ra_int h1 h2) (fun _ => rfl) (by decide) (by decide) (by decide) (Nat.le_of_ble_eq_true rfl) (Nat.le_of_ble_eq_true rfl) dM_init_23 (fun Q_2 H hH hS => ?_)
  have e1 : gu (gu (gu ad (12, 0, 0) Q_0) (12, 1, 0) Q_1) (12, 2, 0) Q_2 (11, 0, 0) = (gu (gu ad (12, 0, 0) Q_0) (12, 1, 0) Q_1) (11, 0, 0) := gu_n _ _ (by decide)
  rw [← e1] at hl
  rw [← e1]
  clear e1
  refine gx_putF (n := (11, 0, 0)) (fs := [.ref Q_0, .ref Q_1, .null, .null, .null, .null, .null, .int 0, .null, .null, .null, .null, .null, .int 0, .int 0, .null, .int 0]) (v := .ref Q_2) (ty := .array .int) hx hb hw inM tyM tyM_ok nM hown hK.1 hH hS (by simp [hn]) (by rw [gu_n _ _ (by decide), gu_s]; rfl) rfl 2 (by decide) (hw _ (gwd_5 (List.mem_of_getElem? (i := 42) rfl))) (fun _ h => h) rfl hin rfl (by decide +kernel) rfl rfl (Nat.le_of_ble_eq_true rfl) dM_init_25 (fun H locs hH hS => ?_)
  refine lv_aload_n hx hb dM_init_28 rfl (lv_at hl 0 rfl) ?_
  refine lv_bipush (v := 24) hx hb dM_init_29 (by decide) ?_
  refine gx_newa (atype := .int) (ty := .int) (N' := 24) (a0 := (24, .inl (fun _ => 0))) hx hb (hw _ (gwd_0 (List.mem_of_getElem? (i := 39) rfl))) rfl hK.1 hH hS hA (12, 3, 0) (by simp [hd12, hd13]) 0 rfl (fun _ h1 h2 => ra_int h1 h2) (fun _ => rfl) (by decide) (by decide) (by decide) (Nat.le_of_ble_eq_true rfl) (Nat.le_of_ble_eq_true rfl) dM_init_31 (fun Q_3 H hH hS => ?_)
  have e1 : gu (gu (gu (gu ad (12, 0, 0) Q_0) (12, 1, 0) Q_1) (12, 2, 0) Q_2) (12, 3, 0) Q_3 (11, 0, 0) = (gu (gu (gu ad (12, 0, 0) Q_0) (12, 1, 0) Q_1) (12, 2, 0) Q_2) (11, 0, 0) := gu_n _ _ (by decide)
  rw [← e1] at hl
  rw [← e1]
  clear e1
  refine gx_putF (n := (11, 0, 0)) (fs := [.ref Q_0, .ref Q_1, .ref Q_2, .null, .null, .null, .null, .int 0, .null, .null, .null, .null, .null, .int 0, .int 0, .null, .int 0]) (v := .ref Q_3) (ty := .array .int) hx hb hw inM tyM tyM_ok nM hown hK.1 hH hS (by simp [hn]) (by rw [gu_n _ _ (by decide), gu_s]; rfl) rfl 3 (by decide) (hw _ (gwd_5 (List.mem_of_getElem? (i := 43) rfl))) (fun _ h => h) rfl hin rfl (by decide +kernel) rfl rfl (Nat.le_of_ble_eq_true rfl) dM_init_33 (fun H locs hH hS => ?_)
  refine lv_aload_n hx hb dM_init_36 rfl (lv_at hl 0 rfl) ?_
  refine lv_bipush (v := 24) hx hb dM_init_37 (by decide) ?_
  refine gx_newa (atype := .int) (ty := .int) (N' := 24) (a0 := (24, .inl (fun _ => 0))) hx hb (hw _ (gwd_0 (List.mem_of_getElem? (i := 39) rfl))) rfl hK.1 hH hS hA (12, 4, 0) (by simp [hd12, hd13]) 0 rfl (fun _ h1 h2 => ra_int h1 h2) (fun _ => rfl) (by decide) (by decide) (by decide) (Nat.le_of_ble_eq_true rfl) (Nat.le_of_ble_eq_true rfl) dM_init_39 (fun Q_4 H hH hS => ?_)
  have e1 : gu (gu (gu (gu (gu ad (12, 0, 0) Q_0) (12, 1, 0) Q_1) (12, 2, 0) Q_2) (12, 3, 0) Q_3) (12, 4, 0) Q_4 (11, 0, 0) = (gu (gu (gu (gu ad (12, 0, 0) Q_0) (12, 1, 0) Q_1) (12, 2, 0) Q_2) (12, 3, 0) Q_3) (11, 0, 0) := gu_n _ _ (by decide)
  rw [← e1] at hl
  rw [← e1]
  clear e1
  refine gx_putF (n := (11, 0, 0)) (fs := [.ref Q_0, .ref Q_1, .ref Q_2, .ref Q_3, .null, .null, .null, .int 0, .null, .null, .null, .null, .null, .int 0, .int 0, .null, .int 0]) (v := .ref Q_4) (ty := .array .int) hx hb hw inM tyM tyM_ok nM hown hK.1 hH hS (by simp [hn]) (by rw [gu_n _ _ (by decide), gu_s]; rfl) rfl 4 (by decide) (hw _ (gwd_5 (List.mem_of_getElem? (i := 44) rfl))) (fun _ h => h) rfl hin rfl (by decide +kernel) rfl rfl (Nat.le_of_ble_eq_true rfl) dM_init_41 (fun H locs hH hS => ?_)
  refine lv_aload_n hx hb dM_init_44 rfl (lv_at hl 0 rfl) ?_
  refine lv_bipush (v := 24) hx hb dM_init_45 (by decide) ?_
  refine gx_newa (atype := .boolean) (ty := .boolean) (N' := 24) (a0 := (24, .inl (fun _ => 0))) hx hb (hw _ (gwd_6 (List.mem_of_getElem? (i := 26) rfl))) rfl hK.1 hH hS hA (13, 5, 0) (by simp [hd12, hd13]) 1 rfl (fun _ h1 h2 => ra_boolean h1 h2) (fun _ => rfl) (by decide) (by decide) (by decide) (Nat.le_of_ble_eq_true rfl) (Nat.le_of_ble_eq_true rfl) dM_init_47 (fun Q_5 H hH hS => ?_)
  have e1 : gu (gu (gu (gu (gu (gu ad (12, 0, 0) Q_0) (12, 1, 0) Q_1) (12, 2, 0) Q_2) (12, 3, 0) Q_3) (12, 4, 0) Q_4) (13, 5, 0) Q_5 (11, 0, 0) = (gu (gu (gu (gu (gu ad (12, 0, 0) Q_0) (12, 1, 0) Q_1) (12, 2, 0) Q_2) (12, 3, 0) Q_3) (12, 4, 0) Q_4) (11, 0, 0) := gu_n _ _ (by decide)
  rw [← e1] at hl
  rw [← e1]
  clear e1
  refine gx_putF (n := (11, 0, 0)) (fs := [.ref Q_0, .ref Q_1, .ref Q_2, .ref Q_3, .ref Q_4, .null, .null, .int 0, .null, .null, .null, .null, .null, .int 0, .int 0, .null, .int 0]) (v := .ref Q_5) (ty := .array .boolean) hx hb hw inM tyM tyM_ok nM hown hK.1 hH hS (by simp [hn]) (by rw [gu_n _ _ (by decide), gu_s]; rfl) rfl 5 (by decide) (hw _ (gwd_5 (List.mem_of_getElem? (i := 45) rfl))) (fun _ h => h) rfl hin rfl (by decide +kernel) rfl rfl (Nat.le_of_ble_eq_true rfl) dM_init_49 (fun H locs hH hS => ?_)
  refine lv_aload_n hx hb dM_init_52 rfl (lv_at hl 0 rfl) ?_
  refine lv_bipush (v := 24) hx hb dM_init_53 (by decide) ?_
  refine gx_newa (atype := .boolean) (ty := .boolean) (N' := 24) (a0 := (24, .inl (fun _ => 0))) hx hb (hw _ (gwd_6 (List.mem_of_getElem? (i := 26) rfl))) rfl hK.1 hH hS hA (13, 6, 0) (by simp [hd12, hd13]) 1 rfl (fun _ h1 h2 => ra_boolean h1 h2) (fun _ => rfl) (by decide) (by decide) (by decide) (Nat.le_of_ble_eq_true rfl) (Nat.le_of_ble_eq_true rfl) dM_init_55 (fun Q_6 H hH hS => ?_)
  have e1 : gu (gu (gu (gu (gu (gu (gu ad (12, 0, 0) Q_0) (12, 1, 0) Q_1) (12, 2, 0) Q_2) (12, 3, 0) Q_3) (12, 4, 0) Q_4) (13, 5, 0) Q_5) (13, 6, 0) Q_6 (11, 0, 0) = (gu (gu (gu (gu (gu (gu ad (12, 0, 0) Q_0) (12, 1, 0) Q_1) (12, 2, 0) Q_2) (12, 3, 0) Q_3) (12, 4, 0) Q_4) (13, 5, 0) Q_5) (11, 0, 0) := gu_n _ _ (by decide)
  rw [← e1] at hl
  rw [← e1]
  clear e1
  refine gx_putF (n := (11, 0, 0)) (fs := [.ref Q_0, .ref Q_1, .ref Q_2, .ref Q_3, .ref Q_4, .ref Q_5, .null, .int 0, .null, .null, .null, .null, .null, .int 0, .int 0, .null, .int 0]) (v := .ref Q_6) (ty := .array .boolean) hx hb hw inM tyM tyM_ok nM hown hK.1 hH hS (by simp [hn]) (by rw [gu_n _ _ (by decide), gu_s]; rfl) rfl 6 (by decide) (hw _ (gwd_5 (List.mem_of_getElem? (i := 46) rfl))) (fun _ h => h) rfl hin rfl (by decide +kernel) rfl rfl (Nat.le_of_ble_eq_true rfl) dM_init_57 (fun H locs hH hS => ?_)
  refine lv_aload_n hx hb dM_init_60 rfl (lv_at hl 0 rfl) ?_
  refine lv_bipush (v := 7) hx hb dM_init_61 (by decide) ?_
  refine gx_newa (atype := .boolean) (ty := .boolean) (N' := 7) (a0 := (7, .inl (fun _ => 0))) hx hb (hw _ (gwd_6 (List.mem_of_getElem? (i := 26) rfl))) rfl hK.1 hH hS hA (13, 8, 0) (by simp [hd12, hd13]) 1 rfl (fun _ h1 h2 => ra_boolean h1 h2) (fun _ => rfl) (by decide) (by decide) (by decide) (Nat.le_of_ble_eq_true rfl) (Nat.le_of_ble_eq_true rfl) dM_init_63 (fun Q_8 H hH hS => ?_)
  have e1 : gu (gu (gu (gu (gu (gu (gu (gu ad (12, 0, 0) Q_0) (12, 1, 0) Q_1) (12, 2, 0) Q_2) (12, 3, 0) Q_3) (12, 4, 0) Q_4) (13, 5, 0) Q_5) (13, 6, 0) Q_6) (13, 8, 0) Q_8 (11, 0, 0) = (gu (gu (gu (gu (gu (gu (gu ad (12, 0, 0) Q_0) (12, 1, 0) Q_1) (12, 2, 0) Q_2) (12, 3, 0) Q_3) (12, 4, 0) Q_4) (13, 5, 0) Q_5) (13, 6, 0) Q_6) (11, 0, 0) := gu_n _ _ (by decide)
  rw [← e1] at hl
  rw [← e1]
  clear e1
  refine gx_putF (n := (11, 0, 0)) (fs := [.ref Q_0, .ref Q_1, .ref Q_2, .ref Q_3, .ref Q_4, .ref Q_5, .ref Q_6, .int 0, .null, .null, .null, .null, .null, .int 0, .int 0, .null, .int 0]) (v := .ref Q_8) (ty := .array .boolean) hx hb hw inM tyM tyM_ok nM hown hK.1 hH hS (by simp [hn]) (by rw [gu_n _ _ (by decide), gu_s]; rfl) rfl 8 (by decide) (hw _ (gwd_6 (List.mem_of_getElem? (i := 0) rfl))) (fun _ h => h) rfl hin rfl (by decide +kernel) rfl rfl (Nat.le_of_ble_eq_true rfl) dM_init_65 (fun H locs hH hS => ?_)
  refine lv_aload_n hx hb dM_init_68 rfl (lv_at hl 0 rfl) ?_
  refine lv_bipush (v := 7) hx hb dM_init_69 (by decide) ?_
  refine gx_newa (atype := .boolean) (ty := .boolean) (N' := 7) (a0 := (7, .inl (fun _ => 0))) hx hb (hw _ (gwd_6 (List.mem_of_getElem? (i := 26) rfl))) rfl hK.1 hH hS hA (13, 9, 0) (by simp [hd12, hd13]) 1 rfl (fun _ h1 h2 => ra_boolean h1 h2) (fun _ => rfl) (by decide) (by decide) (by decide) (Nat.le_of_ble_eq_true rfl) (Nat.le_of_ble_eq_true rfl) dM_init_71 (fun Q_9 H hH hS => ?_)
  have e1 : gu (gu (gu (gu (gu (gu (gu (gu (gu ad (12, 0, 0) Q_0) (12, 1, 0) Q_1) (12, 2, 0) Q_2) (12, 3, 0) Q_3) (12, 4, 0) Q_4) (13, 5, 0) Q_5) (13, 6, 0) Q_6) (13, 8, 0) Q_8) (13, 9, 0) Q_9 (11, 0, 0) = (gu (gu (gu (gu (gu (gu (gu (gu ad (12, 0, 0) Q_0) (12, 1, 0) Q_1) (12, 2, 0) Q_2) (12, 3, 0) Q_3) (12, 4, 0) Q_4) (13, 5, 0) Q_5) (13, 6, 0) Q_6) (13, 8, 0) Q_8) (11, 0, 0) := gu_n _ _ (by decide)
  rw [← e1] at hl
  rw [← e1]
  clear e1
  refine gx_putF (n := (11, 0, 0)) (fs := [.ref Q_0, .ref Q_1, .ref Q_2, .ref Q_3, .ref Q_4, .ref Q_5, .ref Q_6, .int 0, .ref Q_8, .null, .null, .null, .null, .int 0, .int 0, .null, .int 0]) (v := .ref Q_9) (ty := .array .boolean) hx hb hw inM tyM tyM_ok nM hown hK.1 hH hS (by simp [hn]) (by rw [gu_n _ _ (by decide), gu_s]; rfl) rfl 9 (by decide) (hw _ (gwd_6 (List.mem_of_getElem? (i := 1) rfl))) (fun _ h => h) rfl hin rfl (by decide +kernel) rfl rfl (Nat.le_of_ble_eq_true rfl) dM_init_73 (fun H locs hH hS => ?_)
  refine lv_aload_n hx hb dM_init_76 rfl (lv_at hl 0 rfl) ?_
  refine lv_bipush (v := 56) hx hb dM_init_77 (by decide) ?_
  refine gx_newa (atype := .int) (ty := .int) (N' := 56) (a0 := (56, .inl (fun _ => 0))) hx hb (hw _ (gwd_0 (List.mem_of_getElem? (i := 39) rfl))) rfl hK.1 hH hS hA (12, 10, 0) (by simp [hd12, hd13]) 0 rfl (fun _ h1 h2 => ra_int h1 h2) (fun _ => rfl) (by decide) (by decide) (by decide) (Nat.le_of_ble_eq_true rfl) (Nat.le_of_ble_eq_true rfl) dM_init_79 (fun Q_10 H hH hS => ?_)
  have e1 : gu (gu (gu (gu (gu (gu (gu (gu (gu (gu ad (12, 0, 0) Q_0) (12, 1, 0) Q_1) (12, 2, 0) Q_2) (12, 3, 0) Q_3) (12, 4, 0) Q_4) (13, 5, 0) Q_5) (13, 6, 0) Q_6) (13, 8, 0) Q_8) (13, 9, 0) Q_9) (12, 10, 0) Q_10 (11, 0, 0) = (gu (gu (gu (gu (gu (gu (gu (gu (gu ad (12, 0, 0) Q_0) (12, 1, 0) Q_1) (12, 2, 0) Q_2) (12, 3, 0) Q_3) (12, 4, 0) Q_4) (13, 5, 0) Q_5) (13, 6, 0) Q_6) (13, 8, 0) Q_8) (13, 9, 0) Q_9) (11, 0, 0) := gu_n _ _ (by decide)
  rw [← e1] at hl
  rw [← e1]
  clear e1
  refine gx_putF (n := (11, 0, 0)) (fs := [.ref Q_0, .ref Q_1, .ref Q_2, .ref Q_3, .ref Q_4, .ref Q_5, .ref Q_6, .int 0, .ref Q_8, .ref Q_9, .null, .null, .null, .int 0, .int 0, .null, .int 0]) (v := .ref Q_10) (ty := .array .int) hx hb hw inM tyM tyM_ok nM hown hK.1 hH hS (by simp [hn]) (by rw [gu_n _ _ (by decide), gu_s]; rfl) rfl 10 (by decide) (hw _ (gwd_6 (List.mem_of_getElem? (i := 2) rfl))) (fun _ h => h) rfl hin rfl (by decide +kernel) rfl rfl (Nat.le_of_ble_eq_true rfl) dM_init_81 (fun H locs hH hS => ?_)
  refine lv_aload_n hx hb dM_init_84 rfl (lv_at hl 0 rfl) ?_
  refine lv_bipush (v := 14) hx hb dM_init_85 (by decide) ?_
  refine gx_newa (atype := .int) (ty := .int) (N' := 14) (a0 := (14, .inl (fun _ => 0))) hx hb (hw _ (gwd_0 (List.mem_of_getElem? (i := 39) rfl))) rfl hK.1 hH hS hA (12, 11, 0) (by simp [hd12, hd13]) 0 rfl (fun _ h1 h2 => ra_int h1 h2) (fun _ => rfl) (by decide) (by decide) (by decide) (Nat.le_of_ble_eq_true rfl) (Nat.le_of_ble_eq_true rfl) dM_init_87 (fun Q_11 H hH hS => ?_)
  have e1 : gu (gu (gu (gu (gu (gu (gu (gu (gu (gu (gu ad (12, 0, 0) Q_0) (12, 1, 0) Q_1) (12, 2, 0) Q_2) (12, 3, 0) Q_3) (12, 4, 0) Q_4) (13, 5, 0) Q_5) (13, 6, 0) Q_6) (13, 8, 0) Q_8) (13, 9, 0) Q_9) (12, 10, 0) Q_10) (12, 11, 0) Q_11 (11, 0, 0) = (gu (gu (gu (gu (gu (gu (gu (gu (gu (gu ad (12, 0, 0) Q_0) (12, 1, 0) Q_1) (12, 2, 0) Q_2) (12, 3, 0) Q_3) (12, 4, 0) Q_4) (13, 5, 0) Q_5) (13, 6, 0) Q_6) (13, 8, 0) Q_8) (13, 9, 0) Q_9) (12, 10, 0) Q_10) (11, 0, 0) := gu_n _ _ (by decide)
  rw [← e1] at hl
  rw [← e1]
  clear e1
  refine gx_putF (n := (11, 0, 0)) (fs := [.ref Q_0, .ref Q_1, .ref Q_2, .ref Q_3, .ref Q_4, .ref Q_5, .ref Q_6, .int 0, .ref Q_8, .ref Q_9, .ref Q_10, .null, .null, .int 0, .int 0, .null, .int 0]) (v := .ref Q_11) (ty := .array .int) hx hb hw inM tyM tyM_ok nM hown hK.1 hH hS (by simp [hn]) (by rw [gu_n _ _ (by decide), gu_s]; rfl) rfl 11 (by decide) (hw _ (gwd_6 (List.mem_of_getElem? (i := 3) rfl))) (fun _ h => h) rfl hin rfl (by decide +kernel) rfl rfl (Nat.le_of_ble_eq_true rfl) dM_init_89 (fun H locs hH hS => ?_)
  refine lv_aload_n hx hb dM_init_92 rfl (lv_at hl 0 rfl) ?_
  refine lv_bipush (v := 14) hx hb dM_init_93 (by decide) ?_
  refine gx_newa (atype := .int) (ty := .int) (N' := 14) (a0 := (14, .inl (fun _ => 0))) hx hb (hw _ (gwd_0 (List.mem_of_getElem? (i := 39) rfl))) rfl hK.1 hH hS hA (12, 12, 0) (by simp [hd12, hd13]) 0 rfl (fun _ h1 h2 => ra_int h1 h2) (fun _ => rfl) (by decide) (by decide) (by decide) (Nat.le_of_ble_eq_true rfl) (Nat.le_of_ble_eq_true rfl) dM_init_95 (fun Q_12 H hH hS => ?_)
  have e1 : gu (gu (gu (gu (gu (gu (gu (gu (gu (gu (gu (gu ad (12, 0, 0) Q_0) (12, 1, 0) Q_1) (12, 2, 0) Q_2) (12, 3, 0) Q_3) (12, 4, 0) Q_4) (13, 5, 0) Q_5) (13, 6, 0) Q_6) (13, 8, 0) Q_8) (13, 9, 0) Q_9) (12, 10, 0) Q_10) (12, 11, 0) Q_11) (12, 12, 0) Q_12 (11, 0, 0) = (gu (gu (gu (gu (gu (gu (gu (gu (gu (gu (gu ad (12, 0, 0) Q_0) (12, 1, 0) Q_1) (12, 2, 0) Q_2) (12, 3, 0) Q_3) (12, 4, 0) Q_4) (13, 5, 0) Q_5) (13, 6, 0) Q_6) (13, 8, 0) Q_8) (13, 9, 0) Q_9) (12, 10, 0) Q_10) (12, 11, 0) Q_11) (11, 0, 0) := gu_n _ _ (by decide)
  rw [← e1] at hl
  rw [← e1]
  clear e1
  refine gx_putF (n := (11, 0, 0)) (fs := [.ref Q_0, .ref Q_1, .ref Q_2, .ref Q_3, .ref Q_4, .ref Q_5, .ref Q_6, .int 0, .ref Q_8, .ref Q_9, .ref Q_10, .ref Q_11, .null, .int 0, .int 0, .null, .int 0]) (v := .ref Q_12) (ty := .array .int) hx hb hw inM tyM tyM_ok nM hown hK.1 hH hS (by simp [hn]) (by rw [gu_n _ _ (by decide), gu_s]; rfl) rfl 12 (by decide) (hw _ (gwd_6 (List.mem_of_getElem? (i := 4) rfl))) (fun _ h => h) rfl hin rfl (by decide +kernel) rfl rfl (Nat.le_of_ble_eq_true rfl) dM_init_97 (fun H locs hH hS => ?_)
  refine lv_aload_n hx hb dM_init_100 rfl (lv_at hl 0 rfl) ?_
  refine lv_iconst (v := -1) hx hb dM_init_101 (by decide) ?_
  refine gx_put (n := (11, 0, 0)) (fs := [.ref Q_0, .ref Q_1, .ref Q_2, .ref Q_3, .ref Q_4, .ref Q_5, .ref Q_6, .int 0, .ref Q_8, .ref Q_9, .ref Q_10, .ref Q_11, .ref Q_12, .int 0, .int 0, .null, .int 0]) (v := .int (-1)) (ty := .int) hx hb hw inM tyM tyM_ok nM hown hK.1 hH hS (by simp [hn]) (by rw [gu_s]; rfl) rfl 13 (by decide) (hw _ (gwd_6 (List.mem_of_getElem? (i := 5) rfl))) (fun _ h => h) rfl (by decide +kernel) rfl rfl (Nat.le_of_ble_eq_true rfl) dM_init_102 (fun H locs hH hS => ?_)
  refine lv_aload_n hx hb dM_init_105 rfl (lv_at hl 0 rfl) ?_
  refine lv_iconst (v := 4) hx hb dM_init_106 (by decide) ?_
  refine gx_newa (atype := .int) (ty := .int) (N' := 4) (a0 := (4, .inl (fun _ => 0))) hx hb (hw _ (gwd_0 (List.mem_of_getElem? (i := 39) rfl))) rfl hK.1 hH hS hA (12, 15, 0) (by simp [hd12, hd13]) 0 rfl (fun _ h1 h2 => ra_int h1 h2) (fun _ => rfl) (by decide) (by decide) (by decide) (Nat.le_of_ble_eq_true rfl) (Nat.le_of_ble_eq_true rfl) dM_init_107 (fun Q_15 H hH hS => ?_)
  have e1 : gu (gu (gu (gu (gu (gu (gu (gu (gu (gu (gu (gu (gu ad (12, 0, 0) Q_0) (12, 1, 0) Q_1) (12, 2, 0) Q_2) (12, 3, 0) Q_3) (12, 4, 0) Q_4) (13, 5, 0) Q_5) (13, 6, 0) Q_6) (13, 8, 0) Q_8) (13, 9, 0) Q_9) (12, 10, 0) Q_10) (12, 11, 0) Q_11) (12, 12, 0) Q_12) (12, 15, 0) Q_15 (11, 0, 0) = (gu (gu (gu (gu (gu (gu (gu (gu (gu (gu (gu (gu ad (12, 0, 0) Q_0) (12, 1, 0) Q_1) (12, 2, 0) Q_2) (12, 3, 0) Q_3) (12, 4, 0) Q_4) (13, 5, 0) Q_5) (13, 6, 0) Q_6) (13, 8, 0) Q_8) (13, 9, 0) Q_9) (12, 10, 0) Q_10) (12, 11, 0) Q_11) (12, 12, 0) Q_12) (11, 0, 0) := gu_n _ _ (by decide)
  rw [← e1] at hl
  rw [← e1]
  clear e1
  refine gx_putF (n := (11, 0, 0)) (fs := [.ref Q_0, .ref Q_1, .ref Q_2, .ref Q_3, .ref Q_4, .ref Q_5, .ref Q_6, .int 0, .ref Q_8, .ref Q_9, .ref Q_10, .ref Q_11, .ref Q_12, .int (-1), .int 0, .null, .int 0]) (v := .ref Q_15) (ty := .array .int) hx hb hw inM tyM tyM_ok nM hown hK.1 hH hS (by simp [hn]) (by rw [gu_n _ _ (by decide), gu_s]; rfl) rfl 15 (by decide) (hw _ (gwd_6 (List.mem_of_getElem? (i := 7) rfl))) (fun _ h => h) rfl hin rfl (by decide +kernel) rfl rfl (Nat.le_of_ble_eq_true rfl) dM_init_109 (fun H locs hH hS => ?_)
  generalize hAD : (gu (gu (gu (gu (gu (gu (gu (gu (gu (gu (gu (gu (gu ad (12, 0, 0) Q_0) (12, 1, 0) Q_1) (12, 2, 0) Q_2) (12, 3, 0) Q_3) (12, 4, 0) Q_4) (13, 5, 0) Q_5) (13, 6, 0) Q_6) (13, 8, 0) Q_8) (13, 9, 0) Q_9) (12, 10, 0) Q_10) (12, 11, 0) Q_11) (12, 12, 0) Q_12) (12, 15, 0) Q_15) = ad2 at hH
  refine W.vret hx hb hr (fun t ht hW => ⟨⟨ad2, rfl, ?_, hK.moved hW, ?_⟩, hS.F ht⟩) hS.2.2 dM_init_112 hlk
  · intro n hnn
    have hq : n = (11, 0, 0) ∨ n.1 < 11 := hd n hnn
    rw [← hAD]
    rcases hq with rfl | hq
    · simp [gu]
    · obtain ⟨a, b, d⟩ := n
      have hq : a < 11 := hq
      have h12 : ¬ a = 12 := by omega
      have h13 : ¬ a = 13 := by omega
      simp [gu, h12, h13]
  · rw [ht]
    refine gH.congr hH (fun n => ?_) (fun _ _ => rfl) (fun n hnn => ?_)
    · simp only [mNm, or_assoc]
    · have hnn : dm n ∨ mNm n := by simpa only [mNm, or_assoc] using hnn
      rcases hnn with hnn | hnn
      · rcases hd n hnn with rfl | hq
        · rw [gu_s, ← hAD]
          simp [mV0, gE, mJ0, gu]
        · obtain ⟨a, b, d⟩ := n
          have hq : a < 11 := hq
          have h11 : ¬ a = 11 := by omega
          have h12 : ¬ a = 12 := by omega
          have h13 : ¬ a = 13 := by omega
          have hle : ¬ 11 ≤ a := by omega
          simp [mV0, gu, h11, h12, h13, hle]
      · unfold mNm at hnn
        rcases hnn with rfl | rfl | rfl | rfl | rfl | rfl | rfl | rfl | rfl | rfl | rfl | rfl | rfl
        · simp [mV0, gE, mJ0, gu, mlen] <;> rfl
        · simp [mV0, gE, mJ0, gu, mlen] <;> rfl
        · simp [mV0, gE, mJ0, gu, mlen] <;> rfl
        · simp [mV0, gE, mJ0, gu, mlen] <;> rfl
        · simp [mV0, gE, mJ0, gu, mlen] <;> rfl
        · simp [mV0, gE, mJ0, gu, mlen] <;> rfl
        · simp [mV0, gE, mJ0, gu, mlen] <;> rfl
        · simp [mV0, gE, mJ0, gu, mlen] <;> rfl
        · simp [mV0, gE, mJ0, gu, mlen] <;> rfl
        · simp [mV0, gE, mJ0, gu, mlen] <;> rfl
        · simp [mV0, gE, mJ0, gu, mlen] <;> rfl
        · simp [mV0, gE, mJ0, gu, mlen] <;> rfl
        · simp [mV0, gE, mJ0, gu, mlen] <;> rfl
