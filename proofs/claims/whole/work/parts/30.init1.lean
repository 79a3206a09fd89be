theorem ra_int {s : State} {a b : ClassId} (h1 : va_RA s a .int) (h2 : va_RA s b .int) : a = b := by
  have h1 : s.vm.findClass ("[" ++ FieldType.int.toString) = some a := h1
  have h2 : s.vm.findClass ("[" ++ FieldType.int.toString) = some b := h2
  exact Option.some.inj (h1.symm.trans h2)
theorem ra_boolean {s : State} {a b : ClassId} (h1 : va_RA s a .boolean) (h2 : va_RA s b .boolean) : a = b := by
  have h1 : s.vm.findClass ("[" ++ FieldType.boolean.toString) = some a := h1
  have h2 : s.vm.findClass ("[" ++ FieldType.boolean.toString) = some b := h2
  exact Option.some.inj (h1.symm.trans h2)
theorem gu_gu {α : Type} (V : gN → α) (n : gN) (a b : α) : gu (gu V n a) n b = gu V n b := by
  funext n'
  by_cases h : n' = n
  · subst h; rw [gu_s, gu_s]
  · rw [gu_n _ _ h, gu_n _ _ h, gu_n _ _ h]
theorem gH.sz {D : va_G} {cl : List vw_C} {ad : gN → Nat} {dm : gN → Prop} {V : gN → va_E} {sz : Nat} {H : Heap} (h : gH D cl ad dm V (gA sz) H) {n : gN} (h1 : dm n) : ∀ q, H.size ≤ q → gA sz q := by
  intro q hq
  have h2 := h.lt h1
  obtain ⟨N, hN, hP, hD⟩ := h
  obtain ⟨i, hi⟩ := List.getElem?_of_mem ((hN n).mp h1)
  have h3 : sz ≤ ad n := hD.2 i _ (gWs_at hi)
  show sz ≤ q
  omega
def gRB (D : va_G) (c : Nat → ClassId) (sz : Nat) (ad : gN → Nat) (dm : gN → Prop) (V : gN → va_E) (U : State) : Prop := gK D c U ∧ gH D vwCl ad dm V (gA sz) U.heap
set_option maxHeartbeats 4000000 in
set_option maxRecDepth 100000 in
theorem c_P_init (l : Launch) {D : va_G} {c : Nat → ClassId} {sz : Nat} {ad : gN → Nat} {dm : gN → Prop} {V : gN → va_E} {h0 : Nat} (n n2 : gN) (e0 : ad n = h0) (hn : dm n) (hV : V n = .inr (1, [.null, .int 0, .int 0, .int 0, .int 0, .int 0])) (hn2 : ¬ dm n2) : Met l yP_init wP_init { frames := 1, cells := 1, slots := 4, locals := 12 } (va_Pc [.ref h0] (gRB D c sz ad dm V)) (va_Qv (fun _ : Nat => True) (fun q => gRB D c sz (gu ad n2 q) (fun n' => dm n' ∨ n' = n2) (gu (gu V n2 (.inl (c 0, 4, .inl (fun _ => 0)))) n (.inr (1, [.ref q, .int 0, .int 0, .int 0, .int 0, .int 0])))) (gA sz)) 1 4 (gA sz) := by
  refine Met.ofW (cc := cP_init) (maxL := 1) (ret := none) (by decide) rfl ?_
  intro p e s m args below meth cd s₁ B hml hv
  obtain ⟨rfl, hK, hH⟩ := hv
  have hx := B.exec
  have hb := B.bytes
  have hr := B.returns
  have hts := atoms_spec (ws := wP_init) B.pre
  have hw : ∀ w ∈ gWd, w.before _ s = true := fun w h => hts w (List.mem_cons_of_mem _ h)
  have hown : s.vm.findClass RP = some m.cls := findClass_of_methodNamed B.named
  have hlk := B.notSynchronized
  have hin : meth.name = "<init>" := (name_of_methodNamed B.named B.method).1
  have hS : va_S (gA sz) s.heap s.heap [] := va_S.rf
  have hl := lv_entry ([.ref h0]) (n := 1) (Nat.le_of_ble_eq_true rfl)
  rw [lg_entry_eq]
  generalize (lg_sl ([.ref h0]) ++ List.replicate (1 - (lg_sl ([.ref h0])).length) Slot.unset).toArray = ls at hl ⊢
  have hl : lv_has ls 1 [(0, .ref h0)] := hl
  have hA := gH.sz hH hn
  rw [← e0] at hl
  have hne : n ≠ n2 := fun z => hn2 (z ▸ hn)
  refine lv_aload_n hx hb dP_init_0 rfl (lv_at hl 0 rfl) ?_
  refine W.objInit hx hb hown (hw _ (gwd_0 (List.mem_of_getElem? (i := 18) rfl))) (hw _ (gwd_0 (List.mem_of_getElem? (i := 12) rfl))) (hw _ (gwd_0 (List.mem_of_getElem? (i := 13) rfl))) rfl (by rw [hml]; exact hl.1) rfl dP_init_1 (Nat.le_of_ble_eq_true rfl) (Nat.le_of_ble_eq_true rfl) ?_
  refine W.eq (g2 := F0 m 4 ls []) rfl ?_
  refine lv_aload_n hx hb dP_init_4 rfl (lv_at hl 0 rfl) ?_
  refine lv_iconst (v := 4) hx hb dP_init_5 (by decide) ?_
  refine gx_newa (atype := .int) (ty := .int) (N' := 4) (a0 := (4, .inl (fun _ => 0))) hx hb (hw _ (gwd_0 (List.mem_of_getElem? (i := 39) rfl))) rfl hK.1 hH hS hA n2 hn2 0 rfl (fun _ h1 h2 => ra_int h1 h2) (fun _ => rfl) (by decide) (by decide) (by decide) (Nat.le_of_ble_eq_true rfl) (Nat.le_of_ble_eq_true rfl) dP_init_6 (fun Q9 H hH hS => ?_)
  have e1 : gu ad n2 Q9 n = ad n := gu_n _ _ hne
  rw [← e1] at hl
  rw [← e1]
  refine gx_putF (n := n) (fs := [.null, .int 0, .int 0, .int 0, .int 0, .int 0]) (v := .ref Q9) (ty := .array .int) hx hb hw inP tyP tyP_ok nP hown hK.1 hH hS (Or.inl hn) (by rw [gu_n _ _ hne]; exact hV) rfl 0 (by decide) (hw _ (gwd_0 (List.mem_of_getElem? (i := 19) rfl))) (fun _ h => h) rfl hin rfl (by decide +kernel) rfl rfl (Nat.le_of_ble_eq_true rfl) dP_init_8 (fun H locs hH hS => ?_)
  refine lv_aload_n hx hb dP_init_11 rfl (lv_at hl 0 rfl) ?_
  refine lv_iconst (v := 0) hx hb dP_init_12 (by decide) ?_
  refine gx_put (n := n) (fs := [.ref Q9, .int 0, .int 0, .int 0, .int 0, .int 0]) (v := .int 0) (ty := .int) hx hb hw inP tyP tyP_ok nP hown hK.1 hH hS (Or.inl hn) (by rw [gu_s]; rfl) rfl 1 (by decide) (hw _ (gwd_0 (List.mem_of_getElem? (i := 22) rfl))) (fun _ h => h) rfl (by decide +kernel) rfl rfl (Nat.le_of_ble_eq_true rfl) dP_init_13 (fun H locs hH hS => ?_)
  refine lv_aload_n hx hb dP_init_16 rfl (lv_at hl 0 rfl) ?_
  refine lv_iconst (v := 0) hx hb dP_init_17 (by decide) ?_
  refine gx_put (n := n) (fs := [.ref Q9, .int 0, .int 0, .int 0, .int 0, .int 0]) (v := .int 0) (ty := .int) hx hb hw inP tyP tyP_ok nP hown hK.1 hH hS (Or.inl hn) (by rw [gu_s]; rfl) rfl 2 (by decide) (hw _ (gwd_0 (List.mem_of_getElem? (i := 25) rfl))) (fun _ h => h) rfl (by decide +kernel) rfl rfl (Nat.le_of_ble_eq_true rfl) dP_init_18 (fun H locs hH hS => ?_)
  refine lv_aload_n hx hb dP_init_21 rfl (lv_at hl 0 rfl) ?_
  refine lv_iconst (v := 0) hx hb dP_init_22 (by decide) ?_
  refine gx_put (n := n) (fs := [.ref Q9, .int 0, .int 0, .int 0, .int 0, .int 0]) (v := .int 0) (ty := .int) hx hb hw inP tyP tyP_ok nP hown hK.1 hH hS (Or.inl hn) (by rw [gu_s]; rfl) rfl 3 (by decide) (hw _ (gwd_0 (List.mem_of_getElem? (i := 27) rfl))) (fun _ h => h) rfl (by decide +kernel) rfl rfl (Nat.le_of_ble_eq_true rfl) dP_init_23 (fun H locs hH hS => ?_)
  rw [gu_gu, gu_gu, gu_gu] at hH
  exact W.vret hx hb hr (fun t ht hW => ⟨⟨Q9, rfl, trivial, hK.moved hW, by rw [ht]; exact hH⟩, hS.F ht⟩) hS.2.2 dP_init_26 hlk
set_option maxHeartbeats 4000000 in
set_option maxRecDepth 100000 in
theorem c_R_init (l : Launch) {D : va_G} {c : Nat → ClassId} {sz : Nat} {ad : gN → Nat} {dm : gN → Prop} {V : gN → va_E} {h0 : Nat} (n n2 : gN) (e0 : ad n = h0) (hn : dm n) (hV : V n = .inr (3, [.null, .int 0, .int 0, .int 0])) (hn2 : ¬ dm n2) : Met l yR_init wR_init { frames := 1, cells := 1, slots := 4, locals := 12 } (va_Pc [.ref h0] (gRB D c sz ad dm V)) (va_Qv (fun _ : Nat => True) (fun q => gRB D c sz (gu ad n2 q) (fun n' => dm n' ∨ n' = n2) (gu (gu V n2 (.inl (c 0, 4, .inl (fun _ => 0)))) n (.inr (3, [.ref q, .int 0, .int 0, .int (-1)])))) (gA sz)) 1 4 (gA sz) := by
  refine Met.ofW (cc := cR_init) (maxL := 1) (ret := none) (by decide) rfl ?_
  intro p e s m args below meth cd s₁ B hml hv
  obtain ⟨rfl, hK, hH⟩ := hv
  have hx := B.exec
  have hb := B.bytes
  have hr := B.returns
  have hts := atoms_spec (ws := wR_init) B.pre
  have hw : ∀ w ∈ gWd, w.before _ s = true := fun w h => hts w (List.mem_cons_of_mem _ h)
  have hown : s.vm.findClass RR = some m.cls := findClass_of_methodNamed B.named
  have hlk := B.notSynchronized
  have hin : meth.name = "<init>" := (name_of_methodNamed B.named B.method).1
  have hS : va_S (gA sz) s.heap s.heap [] := va_S.rf
  have hl := lv_entry ([.ref h0]) (n := 1) (Nat.le_of_ble_eq_true rfl)
  rw [lg_entry_eq]
  generalize (lg_sl ([.ref h0]) ++ List.replicate (1 - (lg_sl ([.ref h0])).length) Slot.unset).toArray = ls at hl ⊢
  have hl : lv_has ls 1 [(0, .ref h0)] := hl
  have hA := gH.sz hH hn
  rw [← e0] at hl
  have hne : n ≠ n2 := fun z => hn2 (z ▸ hn)
  refine lv_aload_n hx hb dR_init_0 rfl (lv_at hl 0 rfl) ?_
  refine W.objInit hx hb hown (hw _ (gwd_2 (List.mem_of_getElem? (i := 4) rfl))) (hw _ (gwd_0 (List.mem_of_getElem? (i := 12) rfl))) (hw _ (gwd_0 (List.mem_of_getElem? (i := 13) rfl))) rfl (by rw [hml]; exact hl.1) rfl dR_init_1 (Nat.le_of_ble_eq_true rfl) (Nat.le_of_ble_eq_true rfl) ?_
  refine W.eq (g2 := F0 m 4 ls []) rfl ?_
  refine lv_aload_n hx hb dR_init_4 rfl (lv_at hl 0 rfl) ?_
  refine lv_iconst (v := 4) hx hb dR_init_5 (by decide) ?_
  refine gx_newa (atype := .int) (ty := .int) (N' := 4) (a0 := (4, .inl (fun _ => 0))) hx hb (hw _ (gwd_0 (List.mem_of_getElem? (i := 39) rfl))) rfl hK.1 hH hS hA n2 hn2 0 rfl (fun _ h1 h2 => ra_int h1 h2) (fun _ => rfl) (by decide) (by decide) (by decide) (Nat.le_of_ble_eq_true rfl) (Nat.le_of_ble_eq_true rfl) dR_init_6 (fun Q9 H hH hS => ?_)
  have e1 : gu ad n2 Q9 n = ad n := gu_n _ _ hne
  rw [← e1] at hl
  rw [← e1]
  refine gx_putF (n := n) (fs := [.null, .int 0, .int 0, .int 0]) (v := .ref Q9) (ty := .array .int) hx hb hw inR tyR tyR_ok nR hown hK.1 hH hS (Or.inl hn) (by rw [gu_n _ _ hne]; exact hV) rfl 0 (by decide) (hw _ (gwd_2 (List.mem_of_getElem? (i := 5) rfl))) (fun _ h => h) rfl hin rfl (by decide +kernel) rfl rfl (Nat.le_of_ble_eq_true rfl) dR_init_8 (fun H locs hH hS => ?_)
  refine lv_aload_n hx hb dR_init_11 rfl (lv_at hl 0 rfl) ?_
  refine lv_iconst (v := -1) hx hb dR_init_12 (by decide) ?_
  refine gx_put (n := n) (fs := [.ref Q9, .int 0, .int 0, .int 0]) (v := .int (-1)) (ty := .int) hx hb hw inR tyR tyR_ok nR hown hK.1 hH hS (Or.inl hn) (by rw [gu_s]; rfl) rfl 3 (by decide) (hw _ (gwd_2 (List.mem_of_getElem? (i := 9) rfl))) (fun _ h => h) rfl (by decide +kernel) rfl rfl (Nat.le_of_ble_eq_true rfl) dR_init_13 (fun H locs hH hS => ?_)
  rw [gu_gu] at hH
  exact W.vret hx hb hr (fun t ht hW => ⟨⟨Q9, rfl, trivial, hK.moved hW, by rw [ht]; exact hH⟩, hS.F ht⟩) hS.2.2 dR_init_16 hlk
