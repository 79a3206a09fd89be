theorem ar_prim {s : State} {args : Array Value} {ty : FieldType} (h : (Cond.arrayClass ty).before args s = true) : ∃ cA, ArrOfT s cA ty ∧ s.vm.findClass ("[" ++ ty.toString) = some cA := by
  obtain ⟨cA, kA, comp, h1, h2, h3⟩ := Cond.arrayClass_spec h
  exact ⟨cA, fun n z => ⟨fun k h => (by cases h), kA, h2, comp, h3⟩, h1⟩
theorem ar_obj {s : State} {args : Array Value} {C : String} (h : (Cond.arrayOver (.object C)).before args s = true) : ∃ cA, ArrOfT s cA (.object C) ∧ va_RA s cA (.object C) := by
  obtain ⟨comp, cA, kA, h1, h2, h3, h4, h5⟩ := Cond.arrayOver_spec h
  exact ⟨cA, fun n z => ⟨fun k h => (by cases h), kA, h3, comp, h4⟩, kA, comp, h3, h4, h1, h5⟩
theorem gK_of {s : State} {args : Array Value} (hts : ∀ w ∈ lw_tbl, w.before args s = true) : ∃ (D : va_G) (c : Nat → ClassId), gK D c s := by
  have hw : ∀ w ∈ gWd, w.before args s = true := fun w h => hts w (gWd_in w h)
  obtain ⟨k0, i0, u0⟩ := u_known hw inK (hw _ (gwd_0 (List.mem_of_getElem? (i := 7) rfl)))
  obtain ⟨k1, i1, u1⟩ := u_known hw inP (hw _ (gwd_0 (List.mem_of_getElem? (i := 15) rfl)))
  obtain ⟨k2, i2, u2⟩ := u_known hw inG (hw _ (gwd_1 (List.mem_of_getElem? (i := 42) rfl)))
  obtain ⟨k3, i3, u3⟩ := u_known hw inR (hw _ (gwd_2 (List.mem_of_getElem? (i := 1) rfl)))
  obtain ⟨k4, i4, u4⟩ := u_known hw inM (hw _ (gwd_5 (List.mem_of_getElem? (i := 35) rfl)))
  obtain ⟨c0, a0, b0⟩ := ar_prim (hw _ (gwd_0 (List.mem_of_getElem? (i := 39) rfl)))
  obtain ⟨c1, a1, b1⟩ := ar_prim (hw _ (gwd_6 (List.mem_of_getElem? (i := 26) rfl)))
  obtain ⟨c2, a2, b2⟩ := ar_obj (hts (.arrayOver (.object "GuestKeeper$Page")) (List.mem_append_right _ (List.mem_of_getElem? (i := 15) (by decide +kernel))))
  obtain ⟨c3, a3, b3⟩ := ar_obj (hts (.arrayOver (.object "GuestKeeper$Guest")) (List.mem_append_right _ (List.mem_of_getElem? (i := 50) (by decide +kernel))))
  obtain ⟨c4, a4, b4⟩ := ar_obj (hts (.arrayOver (.object "GuestKeeper$Processor")) (List.mem_append_right _ (List.mem_of_getElem? (i := 118) (by decide +kernel))))
  refine ⟨(fun i => match i with | 0 => k0 | 1 => k1 | 2 => k2 | 3 => k3 | _ => k4, fun i => match i with | 0 => i0 | 1 => i1 | 2 => i2 | 3 => i3 | _ => i4), fun i => match i with | 0 => c0 | 1 => c1 | 2 => c2 | 3 => c3 | _ => c4, ⟨fun c q hq => ?_, fun n q hq => ?_⟩, ?_⟩
  · match c, hq with
    | 0, hq => cases hq; exact u0
    | 1, hq => cases hq; exact u1
    | 2, hq => cases hq; exact u2
    | 3, hq => cases hq; exact u3
    | 4, hq => cases hq; exact u4
    | c + 5, hq => simp at hq
  · match n, hq with
    | 0, hq => cases hq; exact ⟨a0, b0⟩
    | 1, hq => cases hq; exact ⟨a1, b1⟩
    | 2, hq => cases hq; exact ⟨a2, b2⟩
    | 3, hq => cases hq; exact ⟨a3, b3⟩
    | 4, hq => cases hq; exact ⟨a4, b4⟩
    | n + 5, hq => simp at hq
  · exact ⟨va_Nw.of rfl (hts (.methodLinkNest RK 15 yP_init "GuestKeeper") (List.mem_append_right _ (List.mem_of_getElem? (i := 17) (by decide +kernel)))), va_Nw.of rfl (hts (.methodLinkNest RG 31 yR_init "GuestKeeper") (List.mem_append_right _ (List.mem_of_getElem? (i := 120) (by decide +kernel)))), va_AO.of (hts (.arrayOver (.object "GuestKeeper$Page")) (List.mem_append_right _ (List.mem_of_getElem? (i := 15) (by decide +kernel)))), va_AO.of (hts (.arrayOver (.object "GuestKeeper$Guest")) (List.mem_append_right _ (List.mem_of_getElem? (i := 50) (by decide +kernel)))), va_AO.of (hts (.arrayOver (.object "GuestKeeper$Processor")) (List.mem_append_right _ (List.mem_of_getElem? (i := 118) (by decide +kernel))))⟩
section LSLD
variable {p : Program} {l : Launch} {e : Env} {R : Room} {s : State} {m : MethodId} {args : Array Value} {below : List Frame} {meth : Method} {cd : Code} {H : Heap} {locs : List Loc} {cells slots : Nat} {Q : State → Prop}
variable {cc : ByteArray} {pc : Nat} {ls : Array Slot} {rest : List Value} {A : Nat → Prop} {H0 : Heap}
theorem l_sld (hx : p.tables.exec = Jvm.exec) (hb : cd.code = cc) {b L : Nat} {xs : Nat → Int32} (hX : va_X b L xs s H0) (hbl : b < H0.size) (hbA : ¬ A b) (hS : va_S A H0 H locs) {i : Int32} (j : Nat) (hi : i = nI j) (hj : j < L ∧ L ≤ 2048) (hdg : decode cc pc = .ok (.iaload, 1)) (kk : W p l e R s m args below meth cd H locs cells slots Q (F0 m (pc + 1) ls (.int (xs j) :: rest))) : W p l e R s m args below meth cd H locs cells slots Q (F0 m pc ls (.int i :: .ref b :: rest)) := by
  subst hi
  refine va_sld hx hb hX hbl hbA hS (vp_in_nI hj.1 (by omega)) hdg ?_
  rw [nI_clamp (by omega)]
  exact kk
end LSLD
theorem law_gt {L t : Nat} (hL : L ≤ 2048) (ht : t ≤ 512) (h : ¬ nI L - 4 < nI (4 * t)) : 4 * t + 4 ≤ L := by
  have h1 : (nI L - 4 : Int32).toInt = (L : Int) - 4 := pk_sub_toInt (b := 4) (by omega) (by decide)
  have h2 : (nI (4 * t)).toInt = ((4 * t : Nat) : Int) := nI_toInt (by omega)
  have h3 : ¬ (nI L - 4 : Int32).toInt < (nI (4 * t)).toInt := fun q => h (Int32.lt_iff_toInt_lt.mpr q)
  rw [h1, h2] at h3
  omega
theorem lg_cmp_self (x : Int64) : lg_cmp x x = 0 := by
  unfold lg_cmp
  simp
set_option maxHeartbeats 4000000 in
set_option maxRecDepth 100000 in
theorem law_0 {p : Program} {l : Launch} {e : Env} {s : State} {m : MethodId} {below : List Frame} {meth : Method} {cd : Code} {b L : Nat} {xs : Nat → Int32} {D : va_G} {c : Nat → ClassId} {Q : State → Prop} (hx : p.tables.exec = Jvm.exec) (hb : cd.code = code) (hml : cd.maxLocals = 4) (hown : s.vm.findClass RL = some m.cls) (hw : ∀ w ∈ gWd, w.before #[Value.ref b] s = true) (hX : va_X b L xs s s.heap) (hbl : b < s.heap.size) (hK : gK D c s) (hL : L ≤ 2048) {ad : gN → Nat} {k : Nat} {I J : gI} {P : gP} {LG : Option Nat} {LP : Option (Nat × Nat)} {H : Heap} {locs : List Loc} {ls : Array Slot} {t : Nat} (ht : 4 * t + 4 ≤ L) (hH : gW D c s.heap.size ad k I J P LG LP H) (hR : gR k I J P LG LP) (hS : va_S (gA s.heap.size) s.heap H locs) (hl : lv_has ls 4 [(3, .int (nI (4 * t))), (2, .ref (ad (11, 0, 0))), (1, .ref (ad (0, 0, 0))), (0, .ref b)]) (ih : ∀ (ad : gN → Nat) (k : Nat) (I J : gI) (P : gP) (LG : Option Nat) (LP : Option (Nat × Nat)) (ls : Array Slot) (H : Heap) (locs : List Loc), gW D c s.heap.size ad k I J P LG LP H → gR k I J P LG LP → va_S (gA s.heap.size) s.heap H locs → lv_has ls 4 [(3, .int (nI (4 * (t + 1)))), (2, .ref (ad (11, 0, 0))), (1, .ref (ad (0, 0, 0))), (0, .ref b)] → W p l e room_1 s m #[Value.ref b] below meth cd H locs (66 + 7 * (t + 1)) (641 + 88 * (t + 1)) Q (F0 m 18 ls [])) : W p l e room_1 s m #[Value.ref b] below meth cd H locs (66 + 7 * t) (641 + 88 * t) Q (F0 m 128 ls []) := by
  have hbA : ¬ gA s.heap.size b := Nat.not_le.mpr hbl
  have hk := hR.1.hk
  have hmd : J (11, 0, 0) 7 = nI k := hR.1.hmd
  have h01 := hR.1.h01
  have hPl := hR.1.hPl
  have hLG := hR.1.hLG
  have hLP := hR.1.hLP
  have hask := hR.1.hask
  have hpc := hR.1.hpc
  have hld := hR.1.hld
  have hmk : I (0, 0, 0) 3 = nI k := hR.1.hmk
  obtain ⟨hres, hR2⟩ := sim_read hR (xs (4 * t + 1)) (xs (4 * t + 2))
  refine lv_aload_n hx hb dL_law_128 rfl (lv_at hl 2 rfl) ?_
  refine lv_aload_n hx hb dL_law_129 rfl (lv_at hl 3 rfl) ?_
  refine lv_iload_n hx hb dL_law_130 rfl (lv_at hl 0 rfl) ?_
  refine lv_iconst (v := 1) hx hb dL_law_131 (by decide) ?_
  refine lv_iadd hx hb dL_law_132 ?_
  refine l_sld hx hb hX hbl hbA hS (4 * t + 1) (by first | exact nI_add (4 * t) 1 | rfl) (by omega) dL_law_133 ?_
  refine lv_aload_n hx hb dL_law_134 rfl (lv_at hl 3 rfl) ?_
  refine lv_iload_n hx hb dL_law_135 rfl (lv_at hl 0 rfl) ?_
  refine lv_iconst (v := 2) hx hb dL_law_136 (by decide) ?_
  refine lv_iadd hx hb dL_law_137 ?_
  refine l_sld hx hb hX hbl hbA hS (4 * t + 2) (by first | exact nI_add (4 * t) 2 | rfl) (by omega) dL_law_138 ?_
  refine s_clE (va_runV (As := [.int _, .int _]) (rest := []) ⟨hx, hb, hml, hown, hw⟩ (c_K_read l  ) (cwV 2 hw (gd_V (gwd_1 (List.mem_of_getElem? (i := 9) rfl)) (gwd_1 (List.mem_of_getElem? (i := 10) rfl)) (gwd_1 (List.mem_of_getElem? (i := 11) rfl)) (gwd_0 (List.mem_of_getElem? (i := 1) rfl)) (gwd_1 (List.mem_of_getElem? (i := 12) rfl))) rfl rfl rfl (by decide +kernel) ⟨Nat.le_of_ble_eq_true rfl, Nat.le_of_ble_eq_true rfl⟩) (gPre.V (n := (0, 0, 0)) hK hH (by first | exact ⟨rfl, rfl⟩ | exact ⟨by assumption, rfl⟩ | exact ⟨by assumption, by assumption⟩ | exact ⟨by omega, rfl⟩ | exact ⟨by omega, by omega⟩ | exact ⟨by decide, rfl⟩) rfl rfl) rfl rfl hl.1 rfl (lv_room (Nat.le_of_ble_eq_true rfl)) dL_law_139 ⟨show (66 + 7 * t) + 0 ≤ 600000 by omega, show (641 + 88 * t) + 0 ≤ 7302250 by omega⟩) hS (fun H locs hH hS => ?_)
  refine lv_aload_n hx hb dL_law_142 rfl (lv_at hl 1 rfl) ?_
  refine lv_aload_n hx hb dL_law_143 rfl (lv_at hl 3 rfl) ?_
  refine lv_iload_n hx hb dL_law_144 rfl (lv_at hl 0 rfl) ?_
  refine lv_iconst (v := 1) hx hb dL_law_145 (by decide) ?_
  refine lv_iadd hx hb dL_law_146 ?_
  refine l_sld hx hb hX hbl hbA hS (4 * t + 1) (by first | exact nI_add (4 * t) 1 | rfl) (by omega) dL_law_147 ?_
  refine lv_aload_n hx hb dL_law_148 rfl (lv_at hl 3 rfl) ?_
  refine lv_iload_n hx hb dL_law_149 rfl (lv_at hl 0 rfl) ?_
  refine lv_iconst (v := 2) hx hb dL_law_150 (by decide) ?_
  refine lv_iadd hx hb dL_law_151 ?_
  refine l_sld hx hb hX hbl hbA hS (4 * t + 2) (by first | exact nI_add (4 * t) 2 | rfl) (by omega) dL_law_152 ?_
  refine s_clE (va_runV (As := [.int _, .int _]) (rest := [.long _]) ⟨hx, hb, hml, hown, hw⟩ (c_M_read l  (h01)) (cwV 2 hw (gd_V (gwd_6 (List.mem_of_getElem? (i := 27) rfl)) (gwd_6 (List.mem_of_getElem? (i := 28) rfl)) (gwd_6 (List.mem_of_getElem? (i := 29) rfl)) (gwd_0 (List.mem_of_getElem? (i := 3) rfl)) (gwd_6 (List.mem_of_getElem? (i := 30) rfl))) rfl rfl rfl (by decide +kernel) ⟨Nat.le_of_ble_eq_true rfl, Nat.le_of_ble_eq_true rfl⟩) (gPre.V (n := (11, 0, 0)) hK hH (by first | exact ⟨rfl, rfl⟩ | exact ⟨by assumption, rfl⟩ | exact ⟨by assumption, by assumption⟩ | exact ⟨by omega, rfl⟩ | exact ⟨by omega, by omega⟩ | exact ⟨by decide, rfl⟩) rfl rfl) rfl rfl hl.1 rfl (lv_room (Nat.le_of_ble_eq_true rfl)) dL_law_153 ⟨show (66 + 7 * t) + 0 ≤ 600000 by omega, show (641 + 88 * t) + 0 ≤ 7302250 by omega⟩) hS (fun H locs hH hS => ?_)
  refine W.lcmp hx hb dL_law_156 ?_
  refine lv_if_eq hx hb dL_law_157 rfl (fun h_1 => ?_) (fun h_1 => ?_)
  · skip
    refine lv_iinc (k := 0) (v := nI (4 * (t + 1))) hx hb dL_law_669 hl rfl (by rw [show 4 * (t + 1) = 4 * t + 4 by omega, ← nI_add]; rfl) (by decide) rfl (fun ls hl => ?_)
    refine lv_goto hx hb dL_law_672 rfl ?_
    refine W.widen (k := (66 + 7 * (t + 1))) (n := (641 + 88 * (t + 1))) (by omega) (by omega) ?_
    exact ih _ _ _ _ _ _ _ ls _ _ hH hR2 hS hl
  · exact absurd (by rw [hres]; exact lg_cmp_self _) h_1
set_option maxHeartbeats 4000000 in
set_option maxRecDepth 100000 in
theorem law_1 {p : Program} {l : Launch} {e : Env} {s : State} {m : MethodId} {below : List Frame} {meth : Method} {cd : Code} {b L : Nat} {xs : Nat → Int32} {D : va_G} {c : Nat → ClassId} {Q : State → Prop} (hx : p.tables.exec = Jvm.exec) (hb : cd.code = code) (hml : cd.maxLocals = 4) (hown : s.vm.findClass RL = some m.cls) (hw : ∀ w ∈ gWd, w.before #[Value.ref b] s = true) (hX : va_X b L xs s s.heap) (hbl : b < s.heap.size) (hK : gK D c s) (hL : L ≤ 2048) {ad : gN → Nat} {k : Nat} {I J : gI} {P : gP} {LG : Option Nat} {LP : Option (Nat × Nat)} {H : Heap} {locs : List Loc} {ls : Array Slot} {t : Nat} (ht : 4 * t + 4 ≤ L) (hH : gW D c s.heap.size ad k I J P LG LP H) (hR : gR k I J P LG LP) (hS : va_S (gA s.heap.size) s.heap H locs) (hl : lv_has ls 4 [(3, .int (nI (4 * t))), (2, .ref (ad (11, 0, 0))), (1, .ref (ad (0, 0, 0))), (0, .ref b)]) (ih : ∀ (ad : gN → Nat) (k : Nat) (I J : gI) (P : gP) (LG : Option Nat) (LP : Option (Nat × Nat)) (ls : Array Slot) (H : Heap) (locs : List Loc), gW D c s.heap.size ad k I J P LG LP H → gR k I J P LG LP → va_S (gA s.heap.size) s.heap H locs → lv_has ls 4 [(3, .int (nI (4 * (t + 1)))), (2, .ref (ad (11, 0, 0))), (1, .ref (ad (0, 0, 0))), (0, .ref b)] → W p l e room_1 s m #[Value.ref b] below meth cd H locs (66 + 7 * (t + 1)) (641 + 88 * (t + 1)) Q (F0 m 18 ls [])) : W p l e room_1 s m #[Value.ref b] below meth cd H locs (66 + 7 * t) (641 + 88 * t) Q (F0 m 162 ls []) := by
  have hbA : ¬ gA s.heap.size b := Nat.not_le.mpr hbl
  have hk := hR.1.hk
  have hmd : J (11, 0, 0) 7 = nI k := hR.1.hmd
  have h01 := hR.1.h01
  have hPl := hR.1.hPl
  have hLG := hR.1.hLG
  have hLP := hR.1.hLP
  have hask := hR.1.hask
  have hpc := hR.1.hpc
  have hld := hR.1.hld
  have hmk : I (0, 0, 0) 3 = nI k := hR.1.hmk
  obtain ⟨hres, hR2⟩ := sim_write hR (xs (4 * t + 1)) (xs (4 * t + 2)) (xs (4 * t + 3))
  refine lv_aload_n hx hb dL_law_162 rfl (lv_at hl 2 rfl) ?_
  refine lv_aload_n hx hb dL_law_163 rfl (lv_at hl 3 rfl) ?_
  refine lv_iload_n hx hb dL_law_164 rfl (lv_at hl 0 rfl) ?_
  refine lv_iconst (v := 1) hx hb dL_law_165 (by decide) ?_
  refine lv_iadd hx hb dL_law_166 ?_
  refine l_sld hx hb hX hbl hbA hS (4 * t + 1) (by first | exact nI_add (4 * t) 1 | rfl) (by omega) dL_law_167 ?_
  refine lv_aload_n hx hb dL_law_168 rfl (lv_at hl 3 rfl) ?_
  refine lv_iload_n hx hb dL_law_169 rfl (lv_at hl 0 rfl) ?_
  refine lv_iconst (v := 2) hx hb dL_law_170 (by decide) ?_
  refine lv_iadd hx hb dL_law_171 ?_
  refine l_sld hx hb hX hbl hbA hS (4 * t + 2) (by first | exact nI_add (4 * t) 2 | rfl) (by omega) dL_law_172 ?_
  refine lv_aload_n hx hb dL_law_173 rfl (lv_at hl 3 rfl) ?_
  refine lv_iload_n hx hb dL_law_174 rfl (lv_at hl 0 rfl) ?_
  refine lv_iconst (v := 3) hx hb dL_law_175 (by decide) ?_
  refine lv_iadd hx hb dL_law_176 ?_
  refine l_sld hx hb hX hbl hbA hS (4 * t + 3) (by first | exact nI_add (4 * t) 3 | rfl) (by omega) dL_law_177 ?_
  refine s_ciE (va_runV (As := [.int _, .int _, .int _]) (rest := []) ⟨hx, hb, hml, hown, hw⟩ (c_K_write l  ) (cwV 3 hw (gd_V (gwd_1 (List.mem_of_getElem? (i := 27) rfl)) (gwd_1 (List.mem_of_getElem? (i := 28) rfl)) (gwd_1 (List.mem_of_getElem? (i := 29) rfl)) (gwd_0 (List.mem_of_getElem? (i := 1) rfl)) (gwd_1 (List.mem_of_getElem? (i := 30) rfl))) rfl rfl rfl (by decide +kernel) ⟨Nat.le_of_ble_eq_true rfl, Nat.le_of_ble_eq_true rfl⟩) (gPre.V (n := (0, 0, 0)) hK hH (by first | exact ⟨rfl, rfl⟩ | exact ⟨by assumption, rfl⟩ | exact ⟨by assumption, by assumption⟩ | exact ⟨by omega, rfl⟩ | exact ⟨by omega, by omega⟩ | exact ⟨by decide, rfl⟩) rfl rfl) rfl rfl hl.1 rfl (lv_room (Nat.le_of_ble_eq_true rfl)) dL_law_178 ⟨show (66 + 7 * t) + 0 ≤ 600000 by omega, show (641 + 88 * t) + 0 ≤ 7302250 by omega⟩) hS (fun H locs hH hS => ?_)
  refine lv_aload_n hx hb dL_law_181 rfl (lv_at hl 1 rfl) ?_
  refine lv_aload_n hx hb dL_law_182 rfl (lv_at hl 3 rfl) ?_
  refine lv_iload_n hx hb dL_law_183 rfl (lv_at hl 0 rfl) ?_
  refine lv_iconst (v := 1) hx hb dL_law_184 (by decide) ?_
  refine lv_iadd hx hb dL_law_185 ?_
  refine l_sld hx hb hX hbl hbA hS (4 * t + 1) (by first | exact nI_add (4 * t) 1 | rfl) (by omega) dL_law_186 ?_
  refine lv_aload_n hx hb dL_law_187 rfl (lv_at hl 3 rfl) ?_
  refine lv_iload_n hx hb dL_law_188 rfl (lv_at hl 0 rfl) ?_
  refine lv_iconst (v := 2) hx hb dL_law_189 (by decide) ?_
  refine lv_iadd hx hb dL_law_190 ?_
  refine l_sld hx hb hX hbl hbA hS (4 * t + 2) (by first | exact nI_add (4 * t) 2 | rfl) (by omega) dL_law_191 ?_
  refine lv_aload_n hx hb dL_law_192 rfl (lv_at hl 3 rfl) ?_
  refine lv_iload_n hx hb dL_law_193 rfl (lv_at hl 0 rfl) ?_
  refine lv_iconst (v := 3) hx hb dL_law_194 (by decide) ?_
  refine lv_iadd hx hb dL_law_195 ?_
  refine l_sld hx hb hX hbl hbA hS (4 * t + 3) (by first | exact nI_add (4 * t) 3 | rfl) (by omega) dL_law_196 ?_
  refine s_ciE (va_runV (As := [.int _, .int _, .int _]) (rest := [.int _]) ⟨hx, hb, hml, hown, hw⟩ (c_M_write l  (h01)) (cwV 3 hw (gd_V (gwd_6 (List.mem_of_getElem? (i := 41) rfl)) (gwd_6 (List.mem_of_getElem? (i := 42) rfl)) (gwd_6 (List.mem_of_getElem? (i := 43) rfl)) (gwd_0 (List.mem_of_getElem? (i := 3) rfl)) (gwd_6 (List.mem_of_getElem? (i := 44) rfl))) rfl rfl rfl (by decide +kernel) ⟨Nat.le_of_ble_eq_true rfl, Nat.le_of_ble_eq_true rfl⟩) (gPre.V (n := (11, 0, 0)) hK hH (by first | exact ⟨rfl, rfl⟩ | exact ⟨by assumption, rfl⟩ | exact ⟨by assumption, by assumption⟩ | exact ⟨by omega, rfl⟩ | exact ⟨by omega, by omega⟩ | exact ⟨by decide, rfl⟩) rfl rfl) rfl rfl hl.1 rfl (lv_room (Nat.le_of_ble_eq_true rfl)) dL_law_197 ⟨show (66 + 7 * t) + 0 ≤ 600000 by omega, show (641 + 88 * t) + 0 ≤ 7302250 by omega⟩) hS (fun H locs hH hS => ?_)
  refine lv_icmp_eq hx hb dL_law_200 rfl (fun h_1 => ?_) (fun h_1 => ?_)
  · skip
    refine lv_iinc (k := 0) (v := nI (4 * (t + 1))) hx hb dL_law_669 hl rfl (by rw [show 4 * (t + 1) = 4 * t + 4 by omega, ← nI_add]; rfl) (by decide) rfl (fun ls hl => ?_)
    refine lv_goto hx hb dL_law_672 rfl ?_
    refine W.widen (k := (66 + 7 * (t + 1))) (n := (641 + 88 * (t + 1))) (by omega) (by omega) ?_
    exact ih _ _ _ _ _ _ _ ls _ _ hH hR2 hS hl
  · exact absurd hres h_1
set_option maxHeartbeats 4000000 in
set_option maxRecDepth 100000 in
theorem law_2 {p : Program} {l : Launch} {e : Env} {s : State} {m : MethodId} {below : List Frame} {meth : Method} {cd : Code} {b L : Nat} {xs : Nat → Int32} {D : va_G} {c : Nat → ClassId} {Q : State → Prop} (hx : p.tables.exec = Jvm.exec) (hb : cd.code = code) (hml : cd.maxLocals = 4) (hown : s.vm.findClass RL = some m.cls) (hw : ∀ w ∈ gWd, w.before #[Value.ref b] s = true) (hX : va_X b L xs s s.heap) (hbl : b < s.heap.size) (hK : gK D c s) (hL : L ≤ 2048) {ad : gN → Nat} {k : Nat} {I J : gI} {P : gP} {LG : Option Nat} {LP : Option (Nat × Nat)} {H : Heap} {locs : List Loc} {ls : Array Slot} {t : Nat} (ht : 4 * t + 4 ≤ L) (hH : gW D c s.heap.size ad k I J P LG LP H) (hR : gR k I J P LG LP) (hS : va_S (gA s.heap.size) s.heap H locs) (hl : lv_has ls 4 [(3, .int (nI (4 * t))), (2, .ref (ad (11, 0, 0))), (1, .ref (ad (0, 0, 0))), (0, .ref b)]) (ih : ∀ (ad : gN → Nat) (k : Nat) (I J : gI) (P : gP) (LG : Option Nat) (LP : Option (Nat × Nat)) (ls : Array Slot) (H : Heap) (locs : List Loc), gW D c s.heap.size ad k I J P LG LP H → gR k I J P LG LP → va_S (gA s.heap.size) s.heap H locs → lv_has ls 4 [(3, .int (nI (4 * (t + 1)))), (2, .ref (ad (11, 0, 0))), (1, .ref (ad (0, 0, 0))), (0, .ref b)] → W p l e room_1 s m #[Value.ref b] below meth cd H locs (66 + 7 * (t + 1)) (641 + 88 * (t + 1)) Q (F0 m 18 ls [])) : W p l e room_1 s m #[Value.ref b] below meth cd H locs (66 + 7 * t) (641 + 88 * t) Q (F0 m 205 ls []) := by
  have hbA : ¬ gA s.heap.size b := Nat.not_le.mpr hbl
  have hk := hR.1.hk
  have hmd : J (11, 0, 0) 7 = nI k := hR.1.hmd
  have h01 := hR.1.h01
  have hPl := hR.1.hPl
  have hLG := hR.1.hLG
  have hLP := hR.1.hLP
  have hask := hR.1.hask
  have hpc := hR.1.hpc
  have hld := hR.1.hld
  have hmk : I (0, 0, 0) 3 = nI k := hR.1.hmk
  have hres := hR.1.flt
  refine lv_aload_n hx hb dL_law_205 rfl (lv_at hl 2 rfl) ?_
  refine s_ciE (va_runV (As := []) (rest := []) ⟨hx, hb, hml, hown, hw⟩ (c_K_faults l  ) (cwV 0 hw (gd_V (gwd_1 (List.mem_of_getElem? (i := 31) rfl)) (gwd_1 (List.mem_of_getElem? (i := 32) rfl)) (gwd_1 (List.mem_of_getElem? (i := 33) rfl)) (gwd_0 (List.mem_of_getElem? (i := 1) rfl)) (gwd_1 (List.mem_of_getElem? (i := 34) rfl))) rfl rfl rfl (by decide +kernel) ⟨Nat.le_of_ble_eq_true rfl, Nat.le_of_ble_eq_true rfl⟩) (gPre.V (n := (0, 0, 0)) hK hH (by first | exact ⟨rfl, rfl⟩ | exact ⟨by assumption, rfl⟩ | exact ⟨by assumption, by assumption⟩ | exact ⟨by omega, rfl⟩ | exact ⟨by omega, by omega⟩ | exact ⟨by decide, rfl⟩) rfl rfl) rfl rfl hl.1 rfl (lv_room (Nat.le_of_ble_eq_true rfl)) dL_law_206 ⟨show (66 + 7 * t) + 0 ≤ 600000 by omega, show (641 + 88 * t) + 0 ≤ 7302250 by omega⟩) hS (fun H locs hH hS => ?_)
  refine lv_aload_n hx hb dL_law_209 rfl (lv_at hl 1 rfl) ?_
  refine s_ciE (va_runV (As := []) (rest := [.int _]) ⟨hx, hb, hml, hown, hw⟩ (c_M_faults l  ) (cwV 0 hw (gd_V (gwd_6 (List.mem_of_getElem? (i := 45) rfl)) (gwd_6 (List.mem_of_getElem? (i := 46) rfl)) (gwd_6 (List.mem_of_getElem? (i := 47) rfl)) (gwd_0 (List.mem_of_getElem? (i := 3) rfl)) (gwd_7 (List.mem_of_getElem? (i := 0) rfl))) rfl rfl rfl (by decide +kernel) ⟨Nat.le_of_ble_eq_true rfl, Nat.le_of_ble_eq_true rfl⟩) (gPre.V (n := (11, 0, 0)) hK hH (by first | exact ⟨rfl, rfl⟩ | exact ⟨by assumption, rfl⟩ | exact ⟨by assumption, by assumption⟩ | exact ⟨by omega, rfl⟩ | exact ⟨by omega, by omega⟩ | exact ⟨by decide, rfl⟩) rfl rfl) rfl rfl hl.1 rfl (lv_room (Nat.le_of_ble_eq_true rfl)) dL_law_210 ⟨show (66 + 7 * t) + 0 ≤ 600000 by omega, show (641 + 88 * t) + 0 ≤ 7302250 by omega⟩) hS (fun H locs hH hS => ?_)
  refine lv_icmp_eq hx hb dL_law_213 rfl (fun h_1 => ?_) (fun h_1 => ?_)
  · skip
    refine lv_iinc (k := 0) (v := nI (4 * (t + 1))) hx hb dL_law_669 hl rfl (by rw [show 4 * (t + 1) = 4 * t + 4 by omega, ← nI_add]; rfl) (by decide) rfl (fun ls hl => ?_)
    refine lv_goto hx hb dL_law_672 rfl ?_
    refine W.widen (k := (66 + 7 * (t + 1))) (n := (641 + 88 * (t + 1))) (by omega) (by omega) ?_
    exact ih _ _ _ _ _ _ _ ls _ _ hH hR hS hl
  · exact absurd hres h_1
set_option maxHeartbeats 4000000 in
set_option maxRecDepth 100000 in
theorem law_3 {p : Program} {l : Launch} {e : Env} {s : State} {m : MethodId} {below : List Frame} {meth : Method} {cd : Code} {b L : Nat} {xs : Nat → Int32} {D : va_G} {c : Nat → ClassId} {Q : State → Prop} (hx : p.tables.exec = Jvm.exec) (hb : cd.code = code) (hml : cd.maxLocals = 4) (hown : s.vm.findClass RL = some m.cls) (hw : ∀ w ∈ gWd, w.before #[Value.ref b] s = true) (hX : va_X b L xs s s.heap) (hbl : b < s.heap.size) (hK : gK D c s) (hL : L ≤ 2048) {ad : gN → Nat} {k : Nat} {I J : gI} {P : gP} {LG : Option Nat} {LP : Option (Nat × Nat)} {H : Heap} {locs : List Loc} {ls : Array Slot} {t : Nat} (ht : 4 * t + 4 ≤ L) (hH : gW D c s.heap.size ad k I J P LG LP H) (hR : gR k I J P LG LP) (hS : va_S (gA s.heap.size) s.heap H locs) (hl : lv_has ls 4 [(3, .int (nI (4 * t))), (2, .ref (ad (11, 0, 0))), (1, .ref (ad (0, 0, 0))), (0, .ref b)]) (ih : ∀ (ad : gN → Nat) (k : Nat) (I J : gI) (P : gP) (LG : Option Nat) (LP : Option (Nat × Nat)) (ls : Array Slot) (H : Heap) (locs : List Loc), gW D c s.heap.size ad k I J P LG LP H → gR k I J P LG LP → va_S (gA s.heap.size) s.heap H locs → lv_has ls 4 [(3, .int (nI (4 * (t + 1)))), (2, .ref (ad (11, 0, 0))), (1, .ref (ad (0, 0, 0))), (0, .ref b)] → W p l e room_1 s m #[Value.ref b] below meth cd H locs (66 + 7 * (t + 1)) (641 + 88 * (t + 1)) Q (F0 m 18 ls [])) : W p l e room_1 s m #[Value.ref b] below meth cd H locs (66 + 7 * t) (641 + 88 * t) Q (F0 m 218 ls []) := by
  have hbA : ¬ gA s.heap.size b := Nat.not_le.mpr hbl
  have hk := hR.1.hk
  have hmd : J (11, 0, 0) 7 = nI k := hR.1.hmd
  have h01 := hR.1.h01
  have hPl := hR.1.hPl
  have hLG := hR.1.hLG
  have hLP := hR.1.hLP
  have hask := hR.1.hask
  have hpc := hR.1.hpc
  have hld := hR.1.hld
  have hmk : I (0, 0, 0) 3 = nI k := hR.1.hmk
  refine lv_aload_n hx hb dL_law_218 rfl (lv_at hl 2 rfl) ?_
  refine lv_aload_n hx hb dL_law_219 rfl (lv_at hl 3 rfl) ?_
  refine lv_iload_n hx hb dL_law_220 rfl (lv_at hl 0 rfl) ?_
  refine lv_iconst (v := 1) hx hb dL_law_221 (by decide) ?_
  refine lv_iadd hx hb dL_law_222 ?_
  refine l_sld hx hb hX hbl hbA hS (4 * t + 1) (by first | exact nI_add (4 * t) 1 | rfl) (by omega) dL_law_223 ?_
  refine s_ci (va_runV (As := [.int _]) (rest := []) ⟨hx, hb, hml, hown, hw⟩ (c_K_create l hmk hk hLG (fun q hq => ⟨(hLP q hq).1, (hLP q hq).2.1⟩) hPl) (cwV 1 hw (gd_V (gwd_1 (List.mem_of_getElem? (i := 35) rfl)) (gwd_1 (List.mem_of_getElem? (i := 36) rfl)) (gwd_1 (List.mem_of_getElem? (i := 37) rfl)) (gwd_0 (List.mem_of_getElem? (i := 1) rfl)) (gwd_1 (List.mem_of_getElem? (i := 38) rfl))) rfl rfl rfl (by decide +kernel) ⟨Nat.le_of_ble_eq_true rfl, Nat.le_of_ble_eq_true rfl⟩) (gPre.V (n := (0, 0, 0)) hK hH ⟨rfl, rfl⟩ rfl rfl) rfl rfl hl.1 rfl (lv_room (Nat.le_of_ble_eq_true rfl)) dL_law_224 ⟨show (66 + 7 * t) + 7 ≤ 600000 by omega, show (641 + 88 * t) + 88 ≤ 7302250 by omega⟩) hS (fun r u H locs hp hH hS => ?_)
  obtain ⟨ad2, k2, I2, P2, rfl, hold, hres, hR2, -, -⟩ := sim_create hR _ hp
  have hH : gW D c s.heap.size ad2 k2 I2 J P2 LG LP H := hH
  have h0 : ad2 (0, 0, 0) = ad (0, 0, 0) := hold _ ⟨rfl, rfl⟩
  have h11 : ad2 (11, 0, 0) = ad (11, 0, 0) := hold _ ⟨rfl, rfl⟩
  rw [← h0, ← h11] at hl
  refine lv_aload_n hx hb dL_law_227 rfl (lv_at hl 1 rfl) ?_
  refine lv_aload_n hx hb dL_law_228 rfl (lv_at hl 3 rfl) ?_
  refine lv_iload_n hx hb dL_law_229 rfl (lv_at hl 0 rfl) ?_
  refine lv_iconst (v := 1) hx hb dL_law_230 (by decide) ?_
  refine lv_iadd hx hb dL_law_231 ?_
  refine l_sld hx hb hX hbl hbA hS (4 * t + 1) (by first | exact nI_add (4 * t) 1 | rfl) (by omega) dL_law_232 ?_
  refine s_ciE (va_runV (As := [.int _]) (rest := [.int _]) ⟨hx, hb, hml, hown, hw⟩ (c_M_create l (K := k) hk hmd) (cwV 1 hw (gd_V (gwd_7 (List.mem_of_getElem? (i := 1) rfl)) (gwd_7 (List.mem_of_getElem? (i := 2) rfl)) (gwd_7 (List.mem_of_getElem? (i := 3) rfl)) (gwd_0 (List.mem_of_getElem? (i := 3) rfl)) (gwd_7 (List.mem_of_getElem? (i := 4) rfl))) rfl rfl rfl (by decide +kernel) ⟨Nat.le_of_ble_eq_true rfl, Nat.le_of_ble_eq_true rfl⟩) (gPre.V (n := (11, 0, 0)) hK hH ⟨rfl, rfl⟩ rfl rfl) rfl rfl hl.1 rfl (lv_room (Nat.le_of_ble_eq_true rfl)) dL_law_233 ⟨show (66 + 7 * t) + 7 + 0 ≤ 600000 by omega, show (641 + 88 * t) + 88 + 0 ≤ 7302250 by omega⟩) hS (fun H locs hH hS => ?_)
  refine lv_icmp_eq hx hb dL_law_236 rfl (fun h_1 => ?_) (fun h_1 => ?_)
  · skip
    refine lv_iinc (k := 0) (v := nI (4 * (t + 1))) hx hb dL_law_669 hl rfl (by rw [show 4 * (t + 1) = 4 * t + 4 by omega, ← nI_add]; rfl) (by decide) rfl (fun ls hl => ?_)
    refine lv_goto hx hb dL_law_672 rfl ?_
    refine W.cs (cells' := (66 + 7 * (t + 1))) (slots' := (641 + 88 * (t + 1))) (by omega) (by omega) ?_
    exact ih _ _ _ _ _ _ _ ls _ _ hH hR2 hS hl
  · exact absurd hres h_1
set_option maxHeartbeats 4000000 in
set_option maxRecDepth 100000 in
theorem law_4 {p : Program} {l : Launch} {e : Env} {s : State} {m : MethodId} {below : List Frame} {meth : Method} {cd : Code} {b L : Nat} {xs : Nat → Int32} {D : va_G} {c : Nat → ClassId} {Q : State → Prop} (hx : p.tables.exec = Jvm.exec) (hb : cd.code = code) (hml : cd.maxLocals = 4) (hown : s.vm.findClass RL = some m.cls) (hw : ∀ w ∈ gWd, w.before #[Value.ref b] s = true) (hX : va_X b L xs s s.heap) (hbl : b < s.heap.size) (hK : gK D c s) (hL : L ≤ 2048) {ad : gN → Nat} {k : Nat} {I J : gI} {P : gP} {LG : Option Nat} {LP : Option (Nat × Nat)} {H : Heap} {locs : List Loc} {ls : Array Slot} {t : Nat} (ht : 4 * t + 4 ≤ L) (hH : gW D c s.heap.size ad k I J P LG LP H) (hR : gR k I J P LG LP) (hS : va_S (gA s.heap.size) s.heap H locs) (hl : lv_has ls 4 [(3, .int (nI (4 * t))), (2, .ref (ad (11, 0, 0))), (1, .ref (ad (0, 0, 0))), (0, .ref b)]) (ih : ∀ (ad : gN → Nat) (k : Nat) (I J : gI) (P : gP) (LG : Option Nat) (LP : Option (Nat × Nat)) (ls : Array Slot) (H : Heap) (locs : List Loc), gW D c s.heap.size ad k I J P LG LP H → gR k I J P LG LP → va_S (gA s.heap.size) s.heap H locs → lv_has ls 4 [(3, .int (nI (4 * (t + 1)))), (2, .ref (ad (11, 0, 0))), (1, .ref (ad (0, 0, 0))), (0, .ref b)] → W p l e room_1 s m #[Value.ref b] below meth cd H locs (66 + 7 * (t + 1)) (641 + 88 * (t + 1)) Q (F0 m 18 ls [])) : W p l e room_1 s m #[Value.ref b] below meth cd H locs (66 + 7 * t) (641 + 88 * t) Q (F0 m 241 ls []) := by
  have hbA : ¬ gA s.heap.size b := Nat.not_le.mpr hbl
  have hk := hR.1.hk
  have hmd : J (11, 0, 0) 7 = nI k := hR.1.hmd
  have h01 := hR.1.h01
  have hPl := hR.1.hPl
  have hLG := hR.1.hLG
  have hLP := hR.1.hLP
  have hask := hR.1.hask
  have hpc := hR.1.hpc
  have hld := hR.1.hld
  have hmk : I (0, 0, 0) 3 = nI k := hR.1.hmk
  obtain ⟨hres, hR2⟩ := sim_feed hR (xs (4 * t + 1)) (xs (4 * t + 2))
  refine lv_aload_n hx hb dL_law_241 rfl (lv_at hl 2 rfl) ?_
  refine lv_aload_n hx hb dL_law_242 rfl (lv_at hl 3 rfl) ?_
  refine lv_iload_n hx hb dL_law_243 rfl (lv_at hl 0 rfl) ?_
  refine lv_iconst (v := 1) hx hb dL_law_244 (by decide) ?_
  refine lv_iadd hx hb dL_law_245 ?_
  refine l_sld hx hb hX hbl hbA hS (4 * t + 1) (by first | exact nI_add (4 * t) 1 | rfl) (by omega) dL_law_246 ?_
  refine lv_aload_n hx hb dL_law_247 rfl (lv_at hl 3 rfl) ?_
  refine lv_iload_n hx hb dL_law_248 rfl (lv_at hl 0 rfl) ?_
  refine lv_iconst (v := 2) hx hb dL_law_249 (by decide) ?_
  refine lv_iadd hx hb dL_law_250 ?_
  refine l_sld hx hb hX hbl hbA hS (4 * t + 2) (by first | exact nI_add (4 * t) 2 | rfl) (by omega) dL_law_251 ?_
  refine s_ciE (va_runV (As := [.int _, .int _]) (rest := []) ⟨hx, hb, hml, hown, hw⟩ (c_K_feed l  (hPl)) (cwV 2 hw (gd_V (gwd_2 (List.mem_of_getElem? (i := 47) rfl)) (gwd_3 (List.mem_of_getElem? (i := 0) rfl)) (gwd_3 (List.mem_of_getElem? (i := 1) rfl)) (gwd_0 (List.mem_of_getElem? (i := 1) rfl)) (gwd_3 (List.mem_of_getElem? (i := 2) rfl))) rfl rfl rfl (by decide +kernel) ⟨Nat.le_of_ble_eq_true rfl, Nat.le_of_ble_eq_true rfl⟩) (gPre.V (n := (0, 0, 0)) hK hH (by first | exact ⟨rfl, rfl⟩ | exact ⟨by assumption, rfl⟩ | exact ⟨by assumption, by assumption⟩ | exact ⟨by omega, rfl⟩ | exact ⟨by omega, by omega⟩ | exact ⟨by decide, rfl⟩) rfl rfl) rfl rfl hl.1 rfl (lv_room (Nat.le_of_ble_eq_true rfl)) dL_law_252 ⟨show (66 + 7 * t) + 0 ≤ 600000 by omega, show (641 + 88 * t) + 0 ≤ 7302250 by omega⟩) hS (fun H locs hH hS => ?_)
  refine lv_aload_n hx hb dL_law_255 rfl (lv_at hl 1 rfl) ?_
  refine lv_aload_n hx hb dL_law_256 rfl (lv_at hl 3 rfl) ?_
  refine lv_iload_n hx hb dL_law_257 rfl (lv_at hl 0 rfl) ?_
  refine lv_iconst (v := 1) hx hb dL_law_258 (by decide) ?_
  refine lv_iadd hx hb dL_law_259 ?_
  refine l_sld hx hb hX hbl hbA hS (4 * t + 1) (by first | exact nI_add (4 * t) 1 | rfl) (by omega) dL_law_260 ?_
  refine lv_aload_n hx hb dL_law_261 rfl (lv_at hl 3 rfl) ?_
  refine lv_iload_n hx hb dL_law_262 rfl (lv_at hl 0 rfl) ?_
  refine lv_iconst (v := 2) hx hb dL_law_263 (by decide) ?_
  refine lv_iadd hx hb dL_law_264 ?_
  refine l_sld hx hb hX hbl hbA hS (4 * t + 2) (by first | exact nI_add (4 * t) 2 | rfl) (by omega) dL_law_265 ?_
  refine s_ciE (va_runV (As := [.int _, .int _]) (rest := [.int _]) ⟨hx, hb, hml, hown, hw⟩ (c_M_feed l  (by assumption) (by assumption)) (cwV 2 hw (gd_V (gwd_7 (List.mem_of_getElem? (i := 17) rfl)) (gwd_7 (List.mem_of_getElem? (i := 18) rfl)) (gwd_7 (List.mem_of_getElem? (i := 19) rfl)) (gwd_0 (List.mem_of_getElem? (i := 3) rfl)) (gwd_7 (List.mem_of_getElem? (i := 20) rfl))) rfl rfl rfl (by decide +kernel) ⟨Nat.le_of_ble_eq_true rfl, Nat.le_of_ble_eq_true rfl⟩) (gPre.V (n := (11, 0, 0)) hK hH (by first | exact ⟨rfl, rfl⟩ | exact ⟨by assumption, rfl⟩ | exact ⟨by assumption, by assumption⟩ | exact ⟨by omega, rfl⟩ | exact ⟨by omega, by omega⟩ | exact ⟨by decide, rfl⟩) rfl rfl) rfl rfl hl.1 rfl (lv_room (Nat.le_of_ble_eq_true rfl)) dL_law_266 ⟨show (66 + 7 * t) + 0 ≤ 600000 by omega, show (641 + 88 * t) + 0 ≤ 7302250 by omega⟩) hS (fun H locs hH hS => ?_)
  refine lv_icmp_eq hx hb dL_law_269 rfl (fun h_1 => ?_) (fun h_1 => ?_)
  · skip
    refine lv_iinc (k := 0) (v := nI (4 * (t + 1))) hx hb dL_law_669 hl rfl (by rw [show 4 * (t + 1) = 4 * t + 4 by omega, ← nI_add]; rfl) (by decide) rfl (fun ls hl => ?_)
    refine lv_goto hx hb dL_law_672 rfl ?_
    refine W.widen (k := (66 + 7 * (t + 1))) (n := (641 + 88 * (t + 1))) (by omega) (by omega) ?_
    exact ih _ _ _ _ _ _ _ ls _ _ hH hR2 hS hl
  · exact absurd hres h_1
set_option maxHeartbeats 4000000 in
set_option maxRecDepth 100000 in
theorem law_5 {p : Program} {l : Launch} {e : Env} {s : State} {m : MethodId} {below : List Frame} {meth : Method} {cd : Code} {b L : Nat} {xs : Nat → Int32} {D : va_G} {c : Nat → ClassId} {Q : State → Prop} (hx : p.tables.exec = Jvm.exec) (hb : cd.code = code) (hml : cd.maxLocals = 4) (hown : s.vm.findClass RL = some m.cls) (hw : ∀ w ∈ gWd, w.before #[Value.ref b] s = true) (hX : va_X b L xs s s.heap) (hbl : b < s.heap.size) (hK : gK D c s) (hL : L ≤ 2048) {ad : gN → Nat} {k : Nat} {I J : gI} {P : gP} {LG : Option Nat} {LP : Option (Nat × Nat)} {H : Heap} {locs : List Loc} {ls : Array Slot} {t : Nat} (ht : 4 * t + 4 ≤ L) (hH : gW D c s.heap.size ad k I J P LG LP H) (hR : gR k I J P LG LP) (hS : va_S (gA s.heap.size) s.heap H locs) (hl : lv_has ls 4 [(3, .int (nI (4 * t))), (2, .ref (ad (11, 0, 0))), (1, .ref (ad (0, 0, 0))), (0, .ref b)]) (ih : ∀ (ad : gN → Nat) (k : Nat) (I J : gI) (P : gP) (LG : Option Nat) (LP : Option (Nat × Nat)) (ls : Array Slot) (H : Heap) (locs : List Loc), gW D c s.heap.size ad k I J P LG LP H → gR k I J P LG LP → va_S (gA s.heap.size) s.heap H locs → lv_has ls 4 [(3, .int (nI (4 * (t + 1)))), (2, .ref (ad (11, 0, 0))), (1, .ref (ad (0, 0, 0))), (0, .ref b)] → W p l e room_1 s m #[Value.ref b] below meth cd H locs (66 + 7 * (t + 1)) (641 + 88 * (t + 1)) Q (F0 m 18 ls [])) : W p l e room_1 s m #[Value.ref b] below meth cd H locs (66 + 7 * t) (641 + 88 * t) Q (F0 m 274 ls []) := by
  have hbA : ¬ gA s.heap.size b := Nat.not_le.mpr hbl
  have hk := hR.1.hk
  have hmd : J (11, 0, 0) 7 = nI k := hR.1.hmd
  have h01 := hR.1.h01
  have hPl := hR.1.hPl
  have hLG := hR.1.hLG
  have hLP := hR.1.hLP
  have hask := hR.1.hask
  have hpc := hR.1.hpc
  have hld := hR.1.hld
  have hmk : I (0, 0, 0) 3 = nI k := hR.1.hmk
  obtain ⟨hres, hR2⟩ := sim_donate hR (xs (4 * t + 1)) (xs (4 * t + 2)) (xs (4 * t + 3))
  refine lv_aload_n hx hb dL_law_274 rfl (lv_at hl 2 rfl) ?_
  refine lv_aload_n hx hb dL_law_275 rfl (lv_at hl 3 rfl) ?_
  refine lv_iload_n hx hb dL_law_276 rfl (lv_at hl 0 rfl) ?_
  refine lv_iconst (v := 1) hx hb dL_law_277 (by decide) ?_
  refine lv_iadd hx hb dL_law_278 ?_
  refine l_sld hx hb hX hbl hbA hS (4 * t + 1) (by first | exact nI_add (4 * t) 1 | rfl) (by omega) dL_law_279 ?_
  refine lv_aload_n hx hb dL_law_280 rfl (lv_at hl 3 rfl) ?_
  refine lv_iload_n hx hb dL_law_281 rfl (lv_at hl 0 rfl) ?_
  refine lv_iconst (v := 2) hx hb dL_law_282 (by decide) ?_
  refine lv_iadd hx hb dL_law_283 ?_
  refine l_sld hx hb hX hbl hbA hS (4 * t + 2) (by first | exact nI_add (4 * t) 2 | rfl) (by omega) dL_law_284 ?_
  refine lv_aload_n hx hb dL_law_285 rfl (lv_at hl 3 rfl) ?_
  refine lv_iload_n hx hb dL_law_286 rfl (lv_at hl 0 rfl) ?_
  refine lv_iconst (v := 3) hx hb dL_law_287 (by decide) ?_
  refine lv_iadd hx hb dL_law_288 ?_
  refine l_sld hx hb hX hbl hbA hS (4 * t + 3) (by first | exact nI_add (4 * t) 3 | rfl) (by omega) dL_law_289 ?_
  refine s_ciE (va_runV (As := [.int _, .int _, .int _]) (rest := []) ⟨hx, hb, hml, hown, hw⟩ (c_K_donate l  (hPl)) (cwV 3 hw (gd_V (gwd_3 (List.mem_of_getElem? (i := 20) rfl)) (gwd_3 (List.mem_of_getElem? (i := 21) rfl)) (gwd_3 (List.mem_of_getElem? (i := 22) rfl)) (gwd_0 (List.mem_of_getElem? (i := 1) rfl)) (gwd_3 (List.mem_of_getElem? (i := 23) rfl))) rfl rfl rfl (by decide +kernel) ⟨Nat.le_of_ble_eq_true rfl, Nat.le_of_ble_eq_true rfl⟩) (gPre.V (n := (0, 0, 0)) hK hH (by first | exact ⟨rfl, rfl⟩ | exact ⟨by assumption, rfl⟩ | exact ⟨by assumption, by assumption⟩ | exact ⟨by omega, rfl⟩ | exact ⟨by omega, by omega⟩ | exact ⟨by decide, rfl⟩) rfl rfl) rfl rfl hl.1 rfl (lv_room (Nat.le_of_ble_eq_true rfl)) dL_law_290 ⟨show (66 + 7 * t) + 0 ≤ 600000 by omega, show (641 + 88 * t) + 0 ≤ 7302250 by omega⟩) hS (fun H locs hH hS => ?_)
  refine lv_aload_n hx hb dL_law_293 rfl (lv_at hl 1 rfl) ?_
  refine lv_aload_n hx hb dL_law_294 rfl (lv_at hl 3 rfl) ?_
  refine lv_iload_n hx hb dL_law_295 rfl (lv_at hl 0 rfl) ?_
  refine lv_iconst (v := 1) hx hb dL_law_296 (by decide) ?_
  refine lv_iadd hx hb dL_law_297 ?_
  refine l_sld hx hb hX hbl hbA hS (4 * t + 1) (by first | exact nI_add (4 * t) 1 | rfl) (by omega) dL_law_298 ?_
  refine lv_aload_n hx hb dL_law_299 rfl (lv_at hl 3 rfl) ?_
  refine lv_iload_n hx hb dL_law_300 rfl (lv_at hl 0 rfl) ?_
  refine lv_iconst (v := 2) hx hb dL_law_301 (by decide) ?_
  refine lv_iadd hx hb dL_law_302 ?_
  refine l_sld hx hb hX hbl hbA hS (4 * t + 2) (by first | exact nI_add (4 * t) 2 | rfl) (by omega) dL_law_303 ?_
  refine lv_aload_n hx hb dL_law_304 rfl (lv_at hl 3 rfl) ?_
  refine lv_iload_n hx hb dL_law_305 rfl (lv_at hl 0 rfl) ?_
  refine lv_iconst (v := 3) hx hb dL_law_306 (by decide) ?_
  refine lv_iadd hx hb dL_law_307 ?_
  refine l_sld hx hb hX hbl hbA hS (4 * t + 3) (by first | exact nI_add (4 * t) 3 | rfl) (by omega) dL_law_308 ?_
  refine s_ciE (va_runV (As := [.int _, .int _, .int _]) (rest := [.int _]) ⟨hx, hb, hml, hown, hw⟩ (c_M_donate l  (by assumption) (by assumption)) (cwV 3 hw (gd_V (gwd_7 (List.mem_of_getElem? (i := 33) rfl)) (gwd_7 (List.mem_of_getElem? (i := 34) rfl)) (gwd_7 (List.mem_of_getElem? (i := 35) rfl)) (gwd_0 (List.mem_of_getElem? (i := 3) rfl)) (gwd_7 (List.mem_of_getElem? (i := 36) rfl))) rfl rfl rfl (by decide +kernel) ⟨Nat.le_of_ble_eq_true rfl, Nat.le_of_ble_eq_true rfl⟩) (gPre.V (n := (11, 0, 0)) hK hH (by first | exact ⟨rfl, rfl⟩ | exact ⟨by assumption, rfl⟩ | exact ⟨by assumption, by assumption⟩ | exact ⟨by omega, rfl⟩ | exact ⟨by omega, by omega⟩ | exact ⟨by decide, rfl⟩) rfl rfl) rfl rfl hl.1 rfl (lv_room (Nat.le_of_ble_eq_true rfl)) dL_law_309 ⟨show (66 + 7 * t) + 0 ≤ 600000 by omega, show (641 + 88 * t) + 0 ≤ 7302250 by omega⟩) hS (fun H locs hH hS => ?_)
  refine lv_icmp_eq hx hb dL_law_312 rfl (fun h_1 => ?_) (fun h_1 => ?_)
  · skip
    refine lv_iinc (k := 0) (v := nI (4 * (t + 1))) hx hb dL_law_669 hl rfl (by rw [show 4 * (t + 1) = 4 * t + 4 by omega, ← nI_add]; rfl) (by decide) rfl (fun ls hl => ?_)
    refine lv_goto hx hb dL_law_672 rfl ?_
    refine W.widen (k := (66 + 7 * (t + 1))) (n := (641 + 88 * (t + 1))) (by omega) (by omega) ?_
    exact ih _ _ _ _ _ _ _ ls _ _ hH hR2 hS hl
  · exact absurd hres h_1
set_option maxHeartbeats 4000000 in
set_option maxRecDepth 100000 in
theorem law_6 {p : Program} {l : Launch} {e : Env} {s : State} {m : MethodId} {below : List Frame} {meth : Method} {cd : Code} {b L : Nat} {xs : Nat → Int32} {D : va_G} {c : Nat → ClassId} {Q : State → Prop} (hx : p.tables.exec = Jvm.exec) (hb : cd.code = code) (hml : cd.maxLocals = 4) (hown : s.vm.findClass RL = some m.cls) (hw : ∀ w ∈ gWd, w.before #[Value.ref b] s = true) (hX : va_X b L xs s s.heap) (hbl : b < s.heap.size) (hK : gK D c s) (hL : L ≤ 2048) {ad : gN → Nat} {k : Nat} {I J : gI} {P : gP} {LG : Option Nat} {LP : Option (Nat × Nat)} {H : Heap} {locs : List Loc} {ls : Array Slot} {t : Nat} (ht : 4 * t + 4 ≤ L) (hH : gW D c s.heap.size ad k I J P LG LP H) (hR : gR k I J P LG LP) (hS : va_S (gA s.heap.size) s.heap H locs) (hl : lv_has ls 4 [(3, .int (nI (4 * t))), (2, .ref (ad (11, 0, 0))), (1, .ref (ad (0, 0, 0))), (0, .ref b)]) (ih : ∀ (ad : gN → Nat) (k : Nat) (I J : gI) (P : gP) (LG : Option Nat) (LP : Option (Nat × Nat)) (ls : Array Slot) (H : Heap) (locs : List Loc), gW D c s.heap.size ad k I J P LG LP H → gR k I J P LG LP → va_S (gA s.heap.size) s.heap H locs → lv_has ls 4 [(3, .int (nI (4 * (t + 1)))), (2, .ref (ad (11, 0, 0))), (1, .ref (ad (0, 0, 0))), (0, .ref b)] → W p l e room_1 s m #[Value.ref b] below meth cd H locs (66 + 7 * (t + 1)) (641 + 88 * (t + 1)) Q (F0 m 18 ls [])) : W p l e room_1 s m #[Value.ref b] below meth cd H locs (66 + 7 * t) (641 + 88 * t) Q (F0 m 317 ls []) := by
  have hbA : ¬ gA s.heap.size b := Nat.not_le.mpr hbl
  have hk := hR.1.hk
  have hmd : J (11, 0, 0) 7 = nI k := hR.1.hmd
  have h01 := hR.1.h01
  have hPl := hR.1.hPl
  have hLG := hR.1.hLG
  have hLP := hR.1.hLP
  have hask := hR.1.hask
  have hpc := hR.1.hpc
  have hld := hR.1.hld
  have hmk : I (0, 0, 0) 3 = nI k := hR.1.hmk
  obtain ⟨hres, hR2⟩ := sim_lend hR (xs (4 * t + 1)) (xs (4 * t + 2)) (xs (4 * t + 3))
  refine lv_aload_n hx hb dL_law_317 rfl (lv_at hl 2 rfl) ?_
  refine lv_aload_n hx hb dL_law_318 rfl (lv_at hl 3 rfl) ?_
  refine lv_iload_n hx hb dL_law_319 rfl (lv_at hl 0 rfl) ?_
  refine lv_iconst (v := 1) hx hb dL_law_320 (by decide) ?_
  refine lv_iadd hx hb dL_law_321 ?_
  refine l_sld hx hb hX hbl hbA hS (4 * t + 1) (by first | exact nI_add (4 * t) 1 | rfl) (by omega) dL_law_322 ?_
  refine lv_aload_n hx hb dL_law_323 rfl (lv_at hl 3 rfl) ?_
  refine lv_iload_n hx hb dL_law_324 rfl (lv_at hl 0 rfl) ?_
  refine lv_iconst (v := 2) hx hb dL_law_325 (by decide) ?_
  refine lv_iadd hx hb dL_law_326 ?_
  refine l_sld hx hb hX hbl hbA hS (4 * t + 2) (by first | exact nI_add (4 * t) 2 | rfl) (by omega) dL_law_327 ?_
  refine lv_aload_n hx hb dL_law_328 rfl (lv_at hl 3 rfl) ?_
  refine lv_iload_n hx hb dL_law_329 rfl (lv_at hl 0 rfl) ?_
  refine lv_iconst (v := 3) hx hb dL_law_330 (by decide) ?_
  refine lv_iadd hx hb dL_law_331 ?_
  refine l_sld hx hb hX hbl hbA hS (4 * t + 3) (by first | exact nI_add (4 * t) 3 | rfl) (by omega) dL_law_332 ?_
  refine s_ciE (va_runV (As := [.int _, .int _, .int _]) (rest := []) ⟨hx, hb, hml, hown, hw⟩ (c_K_lend l  (hPl)) (cwV 3 hw (gd_V (gwd_3 (List.mem_of_getElem? (i := 33) rfl)) (gwd_3 (List.mem_of_getElem? (i := 34) rfl)) (gwd_3 (List.mem_of_getElem? (i := 35) rfl)) (gwd_0 (List.mem_of_getElem? (i := 1) rfl)) (gwd_3 (List.mem_of_getElem? (i := 36) rfl))) rfl rfl rfl (by decide +kernel) ⟨Nat.le_of_ble_eq_true rfl, Nat.le_of_ble_eq_true rfl⟩) (gPre.V (n := (0, 0, 0)) hK hH (by first | exact ⟨rfl, rfl⟩ | exact ⟨by assumption, rfl⟩ | exact ⟨by assumption, by assumption⟩ | exact ⟨by omega, rfl⟩ | exact ⟨by omega, by omega⟩ | exact ⟨by decide, rfl⟩) rfl rfl) rfl rfl hl.1 rfl (lv_room (Nat.le_of_ble_eq_true rfl)) dL_law_333 ⟨show (66 + 7 * t) + 0 ≤ 600000 by omega, show (641 + 88 * t) + 0 ≤ 7302250 by omega⟩) hS (fun H locs hH hS => ?_)
  refine lv_aload_n hx hb dL_law_336 rfl (lv_at hl 1 rfl) ?_
  refine lv_aload_n hx hb dL_law_337 rfl (lv_at hl 3 rfl) ?_
  refine lv_iload_n hx hb dL_law_338 rfl (lv_at hl 0 rfl) ?_
  refine lv_iconst (v := 1) hx hb dL_law_339 (by decide) ?_
  refine lv_iadd hx hb dL_law_340 ?_
  refine l_sld hx hb hX hbl hbA hS (4 * t + 1) (by first | exact nI_add (4 * t) 1 | rfl) (by omega) dL_law_341 ?_
  refine lv_aload_n hx hb dL_law_342 rfl (lv_at hl 3 rfl) ?_
  refine lv_iload_n hx hb dL_law_343 rfl (lv_at hl 0 rfl) ?_
  refine lv_iconst (v := 2) hx hb dL_law_344 (by decide) ?_
  refine lv_iadd hx hb dL_law_345 ?_
  refine l_sld hx hb hX hbl hbA hS (4 * t + 2) (by first | exact nI_add (4 * t) 2 | rfl) (by omega) dL_law_346 ?_
  refine lv_aload_n hx hb dL_law_347 rfl (lv_at hl 3 rfl) ?_
  refine lv_iload_n hx hb dL_law_348 rfl (lv_at hl 0 rfl) ?_
  refine lv_iconst (v := 3) hx hb dL_law_349 (by decide) ?_
  refine lv_iadd hx hb dL_law_350 ?_
  refine l_sld hx hb hX hbl hbA hS (4 * t + 3) (by first | exact nI_add (4 * t) 3 | rfl) (by omega) dL_law_351 ?_
  refine s_ciE (va_runV (As := [.int _, .int _, .int _]) (rest := [.int _]) ⟨hx, hb, hml, hown, hw⟩ (c_M_lend l  (by assumption) (by assumption)) (cwV 3 hw (gd_V (gwd_7 (List.mem_of_getElem? (i := 43) rfl)) (gwd_7 (List.mem_of_getElem? (i := 44) rfl)) (gwd_7 (List.mem_of_getElem? (i := 45) rfl)) (gwd_0 (List.mem_of_getElem? (i := 3) rfl)) (gwd_7 (List.mem_of_getElem? (i := 46) rfl))) rfl rfl rfl (by decide +kernel) ⟨Nat.le_of_ble_eq_true rfl, Nat.le_of_ble_eq_true rfl⟩) (gPre.V (n := (11, 0, 0)) hK hH (by first | exact ⟨rfl, rfl⟩ | exact ⟨by assumption, rfl⟩ | exact ⟨by assumption, by assumption⟩ | exact ⟨by omega, rfl⟩ | exact ⟨by omega, by omega⟩ | exact ⟨by decide, rfl⟩) rfl rfl) rfl rfl hl.1 rfl (lv_room (Nat.le_of_ble_eq_true rfl)) dL_law_352 ⟨show (66 + 7 * t) + 0 ≤ 600000 by omega, show (641 + 88 * t) + 0 ≤ 7302250 by omega⟩) hS (fun H locs hH hS => ?_)
  refine lv_icmp_eq hx hb dL_law_355 rfl (fun h_1 => ?_) (fun h_1 => ?_)
  · skip
    refine lv_iinc (k := 0) (v := nI (4 * (t + 1))) hx hb dL_law_669 hl rfl (by rw [show 4 * (t + 1) = 4 * t + 4 by omega, ← nI_add]; rfl) (by decide) rfl (fun ls hl => ?_)
    refine lv_goto hx hb dL_law_672 rfl ?_
    refine W.widen (k := (66 + 7 * (t + 1))) (n := (641 + 88 * (t + 1))) (by omega) (by omega) ?_
    exact ih _ _ _ _ _ _ _ ls _ _ hH hR2 hS hl
  · exact absurd hres h_1
set_option maxHeartbeats 4000000 in
set_option maxRecDepth 100000 in
theorem law_7 {p : Program} {l : Launch} {e : Env} {s : State} {m : MethodId} {below : List Frame} {meth : Method} {cd : Code} {b L : Nat} {xs : Nat → Int32} {D : va_G} {c : Nat → ClassId} {Q : State → Prop} (hx : p.tables.exec = Jvm.exec) (hb : cd.code = code) (hml : cd.maxLocals = 4) (hown : s.vm.findClass RL = some m.cls) (hw : ∀ w ∈ gWd, w.before #[Value.ref b] s = true) (hX : va_X b L xs s s.heap) (hbl : b < s.heap.size) (hK : gK D c s) (hL : L ≤ 2048) {ad : gN → Nat} {k : Nat} {I J : gI} {P : gP} {LG : Option Nat} {LP : Option (Nat × Nat)} {H : Heap} {locs : List Loc} {ls : Array Slot} {t : Nat} (ht : 4 * t + 4 ≤ L) (hH : gW D c s.heap.size ad k I J P LG LP H) (hR : gR k I J P LG LP) (hS : va_S (gA s.heap.size) s.heap H locs) (hl : lv_has ls 4 [(3, .int (nI (4 * t))), (2, .ref (ad (11, 0, 0))), (1, .ref (ad (0, 0, 0))), (0, .ref b)]) (ih : ∀ (ad : gN → Nat) (k : Nat) (I J : gI) (P : gP) (LG : Option Nat) (LP : Option (Nat × Nat)) (ls : Array Slot) (H : Heap) (locs : List Loc), gW D c s.heap.size ad k I J P LG LP H → gR k I J P LG LP → va_S (gA s.heap.size) s.heap H locs → lv_has ls 4 [(3, .int (nI (4 * (t + 1)))), (2, .ref (ad (11, 0, 0))), (1, .ref (ad (0, 0, 0))), (0, .ref b)] → W p l e room_1 s m #[Value.ref b] below meth cd H locs (66 + 7 * (t + 1)) (641 + 88 * (t + 1)) Q (F0 m 18 ls [])) : W p l e room_1 s m #[Value.ref b] below meth cd H locs (66 + 7 * t) (641 + 88 * t) Q (F0 m 360 ls []) := by
  have hbA : ¬ gA s.heap.size b := Nat.not_le.mpr hbl
  have hk := hR.1.hk
  have hmd : J (11, 0, 0) 7 = nI k := hR.1.hmd
  have h01 := hR.1.h01
  have hPl := hR.1.hPl
  have hLG := hR.1.hLG
  have hLP := hR.1.hLP
  have hask := hR.1.hask
  have hpc := hR.1.hpc
  have hld := hR.1.hld
  have hmk : I (0, 0, 0) 3 = nI k := hR.1.hmk
  obtain ⟨hres, hR2⟩ := sim_take hR (xs (4 * t + 1))
  refine lv_aload_n hx hb dL_law_360 rfl (lv_at hl 2 rfl) ?_
  refine lv_aload_n hx hb dL_law_361 rfl (lv_at hl 3 rfl) ?_
  refine lv_iload_n hx hb dL_law_362 rfl (lv_at hl 0 rfl) ?_
  refine lv_iconst (v := 1) hx hb dL_law_363 (by decide) ?_
  refine lv_iadd hx hb dL_law_364 ?_
  refine l_sld hx hb hX hbl hbA hS (4 * t + 1) (by first | exact nI_add (4 * t) 1 | rfl) (by omega) dL_law_365 ?_
  refine s_ciE (va_runV (As := [.int _]) (rest := []) ⟨hx, hb, hml, hown, hw⟩ (c_K_takeBack l  (hPl)) (cwV 1 hw (gd_V (gwd_3 (List.mem_of_getElem? (i := 37) rfl)) (gwd_3 (List.mem_of_getElem? (i := 38) rfl)) (gwd_3 (List.mem_of_getElem? (i := 39) rfl)) (gwd_0 (List.mem_of_getElem? (i := 1) rfl)) (gwd_3 (List.mem_of_getElem? (i := 40) rfl))) rfl rfl rfl (by decide +kernel) ⟨Nat.le_of_ble_eq_true rfl, Nat.le_of_ble_eq_true rfl⟩) (gPre.V (n := (0, 0, 0)) hK hH (by first | exact ⟨rfl, rfl⟩ | exact ⟨by assumption, rfl⟩ | exact ⟨by assumption, by assumption⟩ | exact ⟨by omega, rfl⟩ | exact ⟨by omega, by omega⟩ | exact ⟨by decide, rfl⟩) rfl rfl) rfl rfl hl.1 rfl (lv_room (Nat.le_of_ble_eq_true rfl)) dL_law_366 ⟨show (66 + 7 * t) + 0 ≤ 600000 by omega, show (641 + 88 * t) + 0 ≤ 7302250 by omega⟩) hS (fun H locs hH hS => ?_)
  refine lv_aload_n hx hb dL_law_369 rfl (lv_at hl 1 rfl) ?_
  refine lv_aload_n hx hb dL_law_370 rfl (lv_at hl 3 rfl) ?_
  refine lv_iload_n hx hb dL_law_371 rfl (lv_at hl 0 rfl) ?_
  refine lv_iconst (v := 1) hx hb dL_law_372 (by decide) ?_
  refine lv_iadd hx hb dL_law_373 ?_
  refine l_sld hx hb hX hbl hbA hS (4 * t + 1) (by first | exact nI_add (4 * t) 1 | rfl) (by omega) dL_law_374 ?_
  refine s_ciE (va_runV (As := [.int _]) (rest := [.int _]) ⟨hx, hb, hml, hown, hw⟩ (c_M_takeBack l  ) (cwV 1 hw (gd_V (gwd_7 (List.mem_of_getElem? (i := 47) rfl)) (gwd_8 (List.mem_of_getElem? (i := 0) rfl)) (gwd_8 (List.mem_of_getElem? (i := 1) rfl)) (gwd_0 (List.mem_of_getElem? (i := 3) rfl)) (gwd_8 (List.mem_of_getElem? (i := 2) rfl))) rfl rfl rfl (by decide +kernel) ⟨Nat.le_of_ble_eq_true rfl, Nat.le_of_ble_eq_true rfl⟩) (gPre.V (n := (11, 0, 0)) hK hH (by first | exact ⟨rfl, rfl⟩ | exact ⟨by assumption, rfl⟩ | exact ⟨by assumption, by assumption⟩ | exact ⟨by omega, rfl⟩ | exact ⟨by omega, by omega⟩ | exact ⟨by decide, rfl⟩) rfl rfl) rfl rfl hl.1 rfl (lv_room (Nat.le_of_ble_eq_true rfl)) dL_law_375 ⟨show (66 + 7 * t) + 0 ≤ 600000 by omega, show (641 + 88 * t) + 0 ≤ 7302250 by omega⟩) hS (fun H locs hH hS => ?_)
  refine lv_icmp_eq hx hb dL_law_378 rfl (fun h_1 => ?_) (fun h_1 => ?_)
  · skip
    refine lv_iinc (k := 0) (v := nI (4 * (t + 1))) hx hb dL_law_669 hl rfl (by rw [show 4 * (t + 1) = 4 * t + 4 by omega, ← nI_add]; rfl) (by decide) rfl (fun ls hl => ?_)
    refine lv_goto hx hb dL_law_672 rfl ?_
    refine W.widen (k := (66 + 7 * (t + 1))) (n := (641 + 88 * (t + 1))) (by omega) (by omega) ?_
    exact ih _ _ _ _ _ _ _ ls _ _ hH hR2 hS hl
  · exact absurd hres h_1
set_option maxHeartbeats 4000000 in
set_option maxRecDepth 100000 in
theorem law_8 {p : Program} {l : Launch} {e : Env} {s : State} {m : MethodId} {below : List Frame} {meth : Method} {cd : Code} {b L : Nat} {xs : Nat → Int32} {D : va_G} {c : Nat → ClassId} {Q : State → Prop} (hx : p.tables.exec = Jvm.exec) (hb : cd.code = code) (hml : cd.maxLocals = 4) (hown : s.vm.findClass RL = some m.cls) (hw : ∀ w ∈ gWd, w.before #[Value.ref b] s = true) (hX : va_X b L xs s s.heap) (hbl : b < s.heap.size) (hK : gK D c s) (hL : L ≤ 2048) {ad : gN → Nat} {k : Nat} {I J : gI} {P : gP} {LG : Option Nat} {LP : Option (Nat × Nat)} {H : Heap} {locs : List Loc} {ls : Array Slot} {t : Nat} (ht : 4 * t + 4 ≤ L) (hH : gW D c s.heap.size ad k I J P LG LP H) (hR : gR k I J P LG LP) (hS : va_S (gA s.heap.size) s.heap H locs) (hl : lv_has ls 4 [(3, .int (nI (4 * t))), (2, .ref (ad (11, 0, 0))), (1, .ref (ad (0, 0, 0))), (0, .ref b)]) (ih : ∀ (ad : gN → Nat) (k : Nat) (I J : gI) (P : gP) (LG : Option Nat) (LP : Option (Nat × Nat)) (ls : Array Slot) (H : Heap) (locs : List Loc), gW D c s.heap.size ad k I J P LG LP H → gR k I J P LG LP → va_S (gA s.heap.size) s.heap H locs → lv_has ls 4 [(3, .int (nI (4 * (t + 1)))), (2, .ref (ad (11, 0, 0))), (1, .ref (ad (0, 0, 0))), (0, .ref b)] → W p l e room_1 s m #[Value.ref b] below meth cd H locs (66 + 7 * (t + 1)) (641 + 88 * (t + 1)) Q (F0 m 18 ls [])) : W p l e room_1 s m #[Value.ref b] below meth cd H locs (66 + 7 * t) (641 + 88 * t) Q (F0 m 383 ls []) := by
  have hbA : ¬ gA s.heap.size b := Nat.not_le.mpr hbl
  have hk := hR.1.hk
  have hmd : J (11, 0, 0) 7 = nI k := hR.1.hmd
  have h01 := hR.1.h01
  have hPl := hR.1.hPl
  have hLG := hR.1.hLG
  have hLP := hR.1.hLP
  have hask := hR.1.hask
  have hpc := hR.1.hpc
  have hld := hR.1.hld
  have hmk : I (0, 0, 0) 3 = nI k := hR.1.hmk
  obtain ⟨hres, hR2⟩ := sim_destroy hR (xs (4 * t + 1))
  refine lv_aload_n hx hb dL_law_383 rfl (lv_at hl 2 rfl) ?_
  refine lv_aload_n hx hb dL_law_384 rfl (lv_at hl 3 rfl) ?_
  refine lv_iload_n hx hb dL_law_385 rfl (lv_at hl 0 rfl) ?_
  refine lv_iconst (v := 1) hx hb dL_law_386 (by decide) ?_
  refine lv_iadd hx hb dL_law_387 ?_
  refine l_sld hx hb hX hbl hbA hS (4 * t + 1) (by first | exact nI_add (4 * t) 1 | rfl) (by omega) dL_law_388 ?_
  refine s_ciE (va_runV (As := [.int _]) (rest := []) ⟨hx, hb, hml, hown, hw⟩ (c_K_destroy l  (hLG)) (cwV 1 hw (gd_V (gwd_3 (List.mem_of_getElem? (i := 45) rfl)) (gwd_3 (List.mem_of_getElem? (i := 46) rfl)) (gwd_3 (List.mem_of_getElem? (i := 47) rfl)) (gwd_0 (List.mem_of_getElem? (i := 1) rfl)) (gwd_4 (List.mem_of_getElem? (i := 0) rfl))) rfl rfl rfl (by decide +kernel) ⟨Nat.le_of_ble_eq_true rfl, Nat.le_of_ble_eq_true rfl⟩) (gPre.V (n := (0, 0, 0)) hK hH (by first | exact ⟨rfl, rfl⟩ | exact ⟨by assumption, rfl⟩ | exact ⟨by assumption, by assumption⟩ | exact ⟨by omega, rfl⟩ | exact ⟨by omega, by omega⟩ | exact ⟨by decide, rfl⟩) rfl rfl) rfl rfl hl.1 rfl (lv_room (Nat.le_of_ble_eq_true rfl)) dL_law_389 ⟨show (66 + 7 * t) + 0 ≤ 600000 by omega, show (641 + 88 * t) + 0 ≤ 7302250 by omega⟩) hS (fun H locs hH hS => ?_)
  refine lv_aload_n hx hb dL_law_392 rfl (lv_at hl 1 rfl) ?_
  refine lv_aload_n hx hb dL_law_393 rfl (lv_at hl 3 rfl) ?_
  refine lv_iload_n hx hb dL_law_394 rfl (lv_at hl 0 rfl) ?_
  refine lv_iconst (v := 1) hx hb dL_law_395 (by decide) ?_
  refine lv_iadd hx hb dL_law_396 ?_
  refine l_sld hx hb hX hbl hbA hS (4 * t + 1) (by first | exact nI_add (4 * t) 1 | rfl) (by omega) dL_law_397 ?_
  refine s_ciE (va_runV (As := [.int _]) (rest := [.int _]) ⟨hx, hb, hml, hown, hw⟩ (c_M_destroy l  (by assumption) (by assumption)) (cwV 1 hw (gd_V (gwd_8 (List.mem_of_getElem? (i := 3) rfl)) (gwd_8 (List.mem_of_getElem? (i := 4) rfl)) (gwd_8 (List.mem_of_getElem? (i := 5) rfl)) (gwd_0 (List.mem_of_getElem? (i := 3) rfl)) (gwd_8 (List.mem_of_getElem? (i := 6) rfl))) rfl rfl rfl (by decide +kernel) ⟨Nat.le_of_ble_eq_true rfl, Nat.le_of_ble_eq_true rfl⟩) (gPre.V (n := (11, 0, 0)) hK hH (by first | exact ⟨rfl, rfl⟩ | exact ⟨by assumption, rfl⟩ | exact ⟨by assumption, by assumption⟩ | exact ⟨by omega, rfl⟩ | exact ⟨by omega, by omega⟩ | exact ⟨by decide, rfl⟩) rfl rfl) rfl rfl hl.1 rfl (lv_room (Nat.le_of_ble_eq_true rfl)) dL_law_398 ⟨show (66 + 7 * t) + 0 ≤ 600000 by omega, show (641 + 88 * t) + 0 ≤ 7302250 by omega⟩) hS (fun H locs hH hS => ?_)
  refine lv_icmp_eq hx hb dL_law_401 rfl (fun h_1 => ?_) (fun h_1 => ?_)
  · skip
    refine lv_iinc (k := 0) (v := nI (4 * (t + 1))) hx hb dL_law_669 hl rfl (by rw [show 4 * (t + 1) = 4 * t + 4 by omega, ← nI_add]; rfl) (by decide) rfl (fun ls hl => ?_)
    refine lv_goto hx hb dL_law_672 rfl ?_
    refine W.widen (k := (66 + 7 * (t + 1))) (n := (641 + 88 * (t + 1))) (by omega) (by omega) ?_
    exact ih _ _ _ _ _ _ _ ls _ _ hH hR2 hS hl
  · exact absurd hres h_1
set_option maxHeartbeats 4000000 in
set_option maxRecDepth 100000 in
theorem law_9 {p : Program} {l : Launch} {e : Env} {s : State} {m : MethodId} {below : List Frame} {meth : Method} {cd : Code} {b L : Nat} {xs : Nat → Int32} {D : va_G} {c : Nat → ClassId} {Q : State → Prop} (hx : p.tables.exec = Jvm.exec) (hb : cd.code = code) (hml : cd.maxLocals = 4) (hown : s.vm.findClass RL = some m.cls) (hw : ∀ w ∈ gWd, w.before #[Value.ref b] s = true) (hX : va_X b L xs s s.heap) (hbl : b < s.heap.size) (hK : gK D c s) (hL : L ≤ 2048) {ad : gN → Nat} {k : Nat} {I J : gI} {P : gP} {LG : Option Nat} {LP : Option (Nat × Nat)} {H : Heap} {locs : List Loc} {ls : Array Slot} {t : Nat} (ht : 4 * t + 4 ≤ L) (hH : gW D c s.heap.size ad k I J P LG LP H) (hR : gR k I J P LG LP) (hS : va_S (gA s.heap.size) s.heap H locs) (hl : lv_has ls 4 [(3, .int (nI (4 * t))), (2, .ref (ad (11, 0, 0))), (1, .ref (ad (0, 0, 0))), (0, .ref b)]) (ih : ∀ (ad : gN → Nat) (k : Nat) (I J : gI) (P : gP) (LG : Option Nat) (LP : Option (Nat × Nat)) (ls : Array Slot) (H : Heap) (locs : List Loc), gW D c s.heap.size ad k I J P LG LP H → gR k I J P LG LP → va_S (gA s.heap.size) s.heap H locs → lv_has ls 4 [(3, .int (nI (4 * (t + 1)))), (2, .ref (ad (11, 0, 0))), (1, .ref (ad (0, 0, 0))), (0, .ref b)] → W p l e room_1 s m #[Value.ref b] below meth cd H locs (66 + 7 * (t + 1)) (641 + 88 * (t + 1)) Q (F0 m 18 ls [])) : W p l e room_1 s m #[Value.ref b] below meth cd H locs (66 + 7 * t) (641 + 88 * t) Q (F0 m 406 ls []) := by
  have hbA : ¬ gA s.heap.size b := Nat.not_le.mpr hbl
  have hk := hR.1.hk
  have hmd : J (11, 0, 0) 7 = nI k := hR.1.hmd
  have h01 := hR.1.h01
  have hPl := hR.1.hPl
  have hLG := hR.1.hLG
  have hLP := hR.1.hLP
  have hask := hR.1.hask
  have hpc := hR.1.hpc
  have hld := hR.1.hld
  have hmk : I (0, 0, 0) 3 = nI k := hR.1.hmk
  obtain ⟨hres, hR2⟩ := sim_reclaim hR (xs (4 * t + 1))
  refine lv_aload_n hx hb dL_law_406 rfl (lv_at hl 2 rfl) ?_
  refine lv_aload_n hx hb dL_law_407 rfl (lv_at hl 3 rfl) ?_
  refine lv_iload_n hx hb dL_law_408 rfl (lv_at hl 0 rfl) ?_
  refine lv_iconst (v := 1) hx hb dL_law_409 (by decide) ?_
  refine lv_iadd hx hb dL_law_410 ?_
  refine l_sld hx hb hX hbl hbA hS (4 * t + 1) (by first | exact nI_add (4 * t) 1 | rfl) (by omega) dL_law_411 ?_
  refine s_ciE (va_runV (As := [.int _]) (rest := []) ⟨hx, hb, hml, hown, hw⟩ (c_K_reclaim l  ) (cwV 1 hw (gd_V (gwd_4 (List.mem_of_getElem? (i := 5) rfl)) (gwd_4 (List.mem_of_getElem? (i := 6) rfl)) (gwd_4 (List.mem_of_getElem? (i := 7) rfl)) (gwd_0 (List.mem_of_getElem? (i := 1) rfl)) (gwd_4 (List.mem_of_getElem? (i := 8) rfl))) rfl rfl rfl (by decide +kernel) ⟨Nat.le_of_ble_eq_true rfl, Nat.le_of_ble_eq_true rfl⟩) (gPre.V (n := (0, 0, 0)) hK hH (by first | exact ⟨rfl, rfl⟩ | exact ⟨by assumption, rfl⟩ | exact ⟨by assumption, by assumption⟩ | exact ⟨by omega, rfl⟩ | exact ⟨by omega, by omega⟩ | exact ⟨by decide, rfl⟩) rfl rfl) rfl rfl hl.1 rfl (lv_room (Nat.le_of_ble_eq_true rfl)) dL_law_412 ⟨show (66 + 7 * t) + 0 ≤ 600000 by omega, show (641 + 88 * t) + 0 ≤ 7302250 by omega⟩) hS (fun H locs hH hS => ?_)
  refine lv_aload_n hx hb dL_law_415 rfl (lv_at hl 1 rfl) ?_
  refine lv_aload_n hx hb dL_law_416 rfl (lv_at hl 3 rfl) ?_
  refine lv_iload_n hx hb dL_law_417 rfl (lv_at hl 0 rfl) ?_
  refine lv_iconst (v := 1) hx hb dL_law_418 (by decide) ?_
  refine lv_iadd hx hb dL_law_419 ?_
  refine l_sld hx hb hX hbl hbA hS (4 * t + 1) (by first | exact nI_add (4 * t) 1 | rfl) (by omega) dL_law_420 ?_
  refine s_ciE (va_runV (As := [.int _]) (rest := [.int _]) ⟨hx, hb, hml, hown, hw⟩ (c_M_reclaim l  ) (cwV 1 hw (gd_V (gwd_8 (List.mem_of_getElem? (i := 7) rfl)) (gwd_8 (List.mem_of_getElem? (i := 8) rfl)) (gwd_8 (List.mem_of_getElem? (i := 9) rfl)) (gwd_0 (List.mem_of_getElem? (i := 3) rfl)) (gwd_8 (List.mem_of_getElem? (i := 10) rfl))) rfl rfl rfl (by decide +kernel) ⟨Nat.le_of_ble_eq_true rfl, Nat.le_of_ble_eq_true rfl⟩) (gPre.V (n := (11, 0, 0)) hK hH (by first | exact ⟨rfl, rfl⟩ | exact ⟨by assumption, rfl⟩ | exact ⟨by assumption, by assumption⟩ | exact ⟨by omega, rfl⟩ | exact ⟨by omega, by omega⟩ | exact ⟨by decide, rfl⟩) rfl rfl) rfl rfl hl.1 rfl (lv_room (Nat.le_of_ble_eq_true rfl)) dL_law_421 ⟨show (66 + 7 * t) + 0 ≤ 600000 by omega, show (641 + 88 * t) + 0 ≤ 7302250 by omega⟩) hS (fun H locs hH hS => ?_)
  refine lv_icmp_eq hx hb dL_law_424 rfl (fun h_1 => ?_) (fun h_1 => ?_)
  · skip
    refine lv_iinc (k := 0) (v := nI (4 * (t + 1))) hx hb dL_law_669 hl rfl (by rw [show 4 * (t + 1) = 4 * t + 4 by omega, ← nI_add]; rfl) (by decide) rfl (fun ls hl => ?_)
    refine lv_goto hx hb dL_law_672 rfl ?_
    refine W.widen (k := (66 + 7 * (t + 1))) (n := (641 + 88 * (t + 1))) (by omega) (by omega) ?_
    exact ih _ _ _ _ _ _ _ ls _ _ hH hR2 hS hl
  · exact absurd hres h_1
set_option maxHeartbeats 4000000 in
set_option maxRecDepth 100000 in
theorem law_10 {p : Program} {l : Launch} {e : Env} {s : State} {m : MethodId} {below : List Frame} {meth : Method} {cd : Code} {b L : Nat} {xs : Nat → Int32} {D : va_G} {c : Nat → ClassId} {Q : State → Prop} (hx : p.tables.exec = Jvm.exec) (hb : cd.code = code) (hml : cd.maxLocals = 4) (hown : s.vm.findClass RL = some m.cls) (hw : ∀ w ∈ gWd, w.before #[Value.ref b] s = true) (hX : va_X b L xs s s.heap) (hbl : b < s.heap.size) (hK : gK D c s) (hL : L ≤ 2048) {ad : gN → Nat} {k : Nat} {I J : gI} {P : gP} {LG : Option Nat} {LP : Option (Nat × Nat)} {H : Heap} {locs : List Loc} {ls : Array Slot} {t : Nat} (ht : 4 * t + 4 ≤ L) (hH : gW D c s.heap.size ad k I J P LG LP H) (hR : gR k I J P LG LP) (hS : va_S (gA s.heap.size) s.heap H locs) (hl : lv_has ls 4 [(3, .int (nI (4 * t))), (2, .ref (ad (11, 0, 0))), (1, .ref (ad (0, 0, 0))), (0, .ref b)]) (ih : ∀ (ad : gN → Nat) (k : Nat) (I J : gI) (P : gP) (LG : Option Nat) (LP : Option (Nat × Nat)) (ls : Array Slot) (H : Heap) (locs : List Loc), gW D c s.heap.size ad k I J P LG LP H → gR k I J P LG LP → va_S (gA s.heap.size) s.heap H locs → lv_has ls 4 [(3, .int (nI (4 * (t + 1)))), (2, .ref (ad (11, 0, 0))), (1, .ref (ad (0, 0, 0))), (0, .ref b)] → W p l e room_1 s m #[Value.ref b] below meth cd H locs (66 + 7 * (t + 1)) (641 + 88 * (t + 1)) Q (F0 m 18 ls [])) : W p l e room_1 s m #[Value.ref b] below meth cd H locs (66 + 7 * t) (641 + 88 * t) Q (F0 m 429 ls []) := by
  have hbA : ¬ gA s.heap.size b := Nat.not_le.mpr hbl
  have hk := hR.1.hk
  have hmd : J (11, 0, 0) 7 = nI k := hR.1.hmd
  have h01 := hR.1.h01
  have hPl := hR.1.hPl
  have hLG := hR.1.hLG
  have hLP := hR.1.hLP
  have hask := hR.1.hask
  have hpc := hR.1.hpc
  have hld := hR.1.hld
  have hmk : I (0, 0, 0) 3 = nI k := hR.1.hmk
  obtain ⟨hres, hR2⟩ := sim_load hR (xs (4 * t + 1)) (xs (4 * t + 2))
  refine lv_aload_n hx hb dL_law_429 rfl (lv_at hl 2 rfl) ?_
  refine lv_aload_n hx hb dL_law_430 rfl (lv_at hl 3 rfl) ?_
  refine lv_iload_n hx hb dL_law_431 rfl (lv_at hl 0 rfl) ?_
  refine lv_iconst (v := 1) hx hb dL_law_432 (by decide) ?_
  refine lv_iadd hx hb dL_law_433 ?_
  refine l_sld hx hb hX hbl hbA hS (4 * t + 1) (by first | exact nI_add (4 * t) 1 | rfl) (by omega) dL_law_434 ?_
  refine lv_aload_n hx hb dL_law_435 rfl (lv_at hl 3 rfl) ?_
  refine lv_iload_n hx hb dL_law_436 rfl (lv_at hl 0 rfl) ?_
  refine lv_iconst (v := 2) hx hb dL_law_437 (by decide) ?_
  refine lv_iadd hx hb dL_law_438 ?_
  refine l_sld hx hb hX hbl hbA hS (4 * t + 2) (by first | exact nI_add (4 * t) 2 | rfl) (by omega) dL_law_439 ?_
  refine s_ciE (va_runV (As := [.int _, .int _]) (rest := []) ⟨hx, hb, hml, hown, hw⟩ (c_K_load l  ) (cwV 2 hw (gd_V (gwd_4 (List.mem_of_getElem? (i := 9) rfl)) (gwd_4 (List.mem_of_getElem? (i := 10) rfl)) (gwd_4 (List.mem_of_getElem? (i := 11) rfl)) (gwd_0 (List.mem_of_getElem? (i := 1) rfl)) (gwd_4 (List.mem_of_getElem? (i := 12) rfl))) rfl rfl rfl (by decide +kernel) ⟨Nat.le_of_ble_eq_true rfl, Nat.le_of_ble_eq_true rfl⟩) (gPre.V (n := (0, 0, 0)) hK hH (by first | exact ⟨rfl, rfl⟩ | exact ⟨by assumption, rfl⟩ | exact ⟨by assumption, by assumption⟩ | exact ⟨by omega, rfl⟩ | exact ⟨by omega, by omega⟩ | exact ⟨by decide, rfl⟩) rfl rfl) rfl rfl hl.1 rfl (lv_room (Nat.le_of_ble_eq_true rfl)) dL_law_440 ⟨show (66 + 7 * t) + 0 ≤ 600000 by omega, show (641 + 88 * t) + 0 ≤ 7302250 by omega⟩) hS (fun H locs hH hS => ?_)
  refine lv_aload_n hx hb dL_law_443 rfl (lv_at hl 1 rfl) ?_
  refine lv_aload_n hx hb dL_law_444 rfl (lv_at hl 3 rfl) ?_
  refine lv_iload_n hx hb dL_law_445 rfl (lv_at hl 0 rfl) ?_
  refine lv_iconst (v := 1) hx hb dL_law_446 (by decide) ?_
  refine lv_iadd hx hb dL_law_447 ?_
  refine l_sld hx hb hX hbl hbA hS (4 * t + 1) (by first | exact nI_add (4 * t) 1 | rfl) (by omega) dL_law_448 ?_
  refine lv_aload_n hx hb dL_law_449 rfl (lv_at hl 3 rfl) ?_
  refine lv_iload_n hx hb dL_law_450 rfl (lv_at hl 0 rfl) ?_
  refine lv_iconst (v := 2) hx hb dL_law_451 (by decide) ?_
  refine lv_iadd hx hb dL_law_452 ?_
  refine l_sld hx hb hX hbl hbA hS (4 * t + 2) (by first | exact nI_add (4 * t) 2 | rfl) (by omega) dL_law_453 ?_
  refine s_ciE (va_runV (As := [.int _, .int _]) (rest := [.int _]) ⟨hx, hb, hml, hown, hw⟩ (c_M_load l  (by assumption) (by assumption)) (cwV 2 hw (gd_V (gwd_8 (List.mem_of_getElem? (i := 11) rfl)) (gwd_8 (List.mem_of_getElem? (i := 12) rfl)) (gwd_8 (List.mem_of_getElem? (i := 13) rfl)) (gwd_0 (List.mem_of_getElem? (i := 3) rfl)) (gwd_8 (List.mem_of_getElem? (i := 14) rfl))) rfl rfl rfl (by decide +kernel) ⟨Nat.le_of_ble_eq_true rfl, Nat.le_of_ble_eq_true rfl⟩) (gPre.V (n := (11, 0, 0)) hK hH (by first | exact ⟨rfl, rfl⟩ | exact ⟨by assumption, rfl⟩ | exact ⟨by assumption, by assumption⟩ | exact ⟨by omega, rfl⟩ | exact ⟨by omega, by omega⟩ | exact ⟨by decide, rfl⟩) rfl rfl) rfl rfl hl.1 rfl (lv_room (Nat.le_of_ble_eq_true rfl)) dL_law_454 ⟨show (66 + 7 * t) + 0 ≤ 600000 by omega, show (641 + 88 * t) + 0 ≤ 7302250 by omega⟩) hS (fun H locs hH hS => ?_)
  refine lv_icmp_eq hx hb dL_law_457 rfl (fun h_1 => ?_) (fun h_1 => ?_)
  · skip
    refine lv_iinc (k := 0) (v := nI (4 * (t + 1))) hx hb dL_law_669 hl rfl (by rw [show 4 * (t + 1) = 4 * t + 4 by omega, ← nI_add]; rfl) (by decide) rfl (fun ls hl => ?_)
    refine lv_goto hx hb dL_law_672 rfl ?_
    refine W.widen (k := (66 + 7 * (t + 1))) (n := (641 + 88 * (t + 1))) (by omega) (by omega) ?_
    exact ih _ _ _ _ _ _ _ ls _ _ hH hR2 hS hl
  · exact absurd hres h_1
set_option maxHeartbeats 4000000 in
set_option maxRecDepth 100000 in
theorem law_11 {p : Program} {l : Launch} {e : Env} {s : State} {m : MethodId} {below : List Frame} {meth : Method} {cd : Code} {b L : Nat} {xs : Nat → Int32} {D : va_G} {c : Nat → ClassId} {Q : State → Prop} (hx : p.tables.exec = Jvm.exec) (hb : cd.code = code) (hml : cd.maxLocals = 4) (hown : s.vm.findClass RL = some m.cls) (hw : ∀ w ∈ gWd, w.before #[Value.ref b] s = true) (hX : va_X b L xs s s.heap) (hbl : b < s.heap.size) (hK : gK D c s) (hL : L ≤ 2048) {ad : gN → Nat} {k : Nat} {I J : gI} {P : gP} {LG : Option Nat} {LP : Option (Nat × Nat)} {H : Heap} {locs : List Loc} {ls : Array Slot} {t : Nat} (ht : 4 * t + 4 ≤ L) (hH : gW D c s.heap.size ad k I J P LG LP H) (hR : gR k I J P LG LP) (hS : va_S (gA s.heap.size) s.heap H locs) (hl : lv_has ls 4 [(3, .int (nI (4 * t))), (2, .ref (ad (11, 0, 0))), (1, .ref (ad (0, 0, 0))), (0, .ref b)]) (ih : ∀ (ad : gN → Nat) (k : Nat) (I J : gI) (P : gP) (LG : Option Nat) (LP : Option (Nat × Nat)) (ls : Array Slot) (H : Heap) (locs : List Loc), gW D c s.heap.size ad k I J P LG LP H → gR k I J P LG LP → va_S (gA s.heap.size) s.heap H locs → lv_has ls 4 [(3, .int (nI (4 * (t + 1)))), (2, .ref (ad (11, 0, 0))), (1, .ref (ad (0, 0, 0))), (0, .ref b)] → W p l e room_1 s m #[Value.ref b] below meth cd H locs (66 + 7 * (t + 1)) (641 + 88 * (t + 1)) Q (F0 m 18 ls [])) : W p l e room_1 s m #[Value.ref b] below meth cd H locs (66 + 7 * t) (641 + 88 * t) Q (F0 m 462 ls []) := by
  have hbA : ¬ gA s.heap.size b := Nat.not_le.mpr hbl
  have hk := hR.1.hk
  have hmd : J (11, 0, 0) 7 = nI k := hR.1.hmd
  have h01 := hR.1.h01
  have hPl := hR.1.hPl
  have hLG := hR.1.hLG
  have hLP := hR.1.hLP
  have hask := hR.1.hask
  have hpc := hR.1.hpc
  have hld := hR.1.hld
  have hmk : I (0, 0, 0) 3 = nI k := hR.1.hmk
  obtain ⟨hres, hR2⟩ := sim_put hR 
  refine lv_aload_n hx hb dL_law_462 rfl (lv_at hl 2 rfl) ?_
  refine s_ciE (va_runV (As := []) (rest := []) ⟨hx, hb, hml, hown, hw⟩ (c_K_put l  ) (cwV 0 hw (gd_V (gwd_4 (List.mem_of_getElem? (i := 13) rfl)) (gwd_4 (List.mem_of_getElem? (i := 14) rfl)) (gwd_4 (List.mem_of_getElem? (i := 15) rfl)) (gwd_0 (List.mem_of_getElem? (i := 1) rfl)) (gwd_4 (List.mem_of_getElem? (i := 16) rfl))) rfl rfl rfl (by decide +kernel) ⟨Nat.le_of_ble_eq_true rfl, Nat.le_of_ble_eq_true rfl⟩) (gPre.V (n := (0, 0, 0)) hK hH (by first | exact ⟨rfl, rfl⟩ | exact ⟨by assumption, rfl⟩ | exact ⟨by assumption, by assumption⟩ | exact ⟨by omega, rfl⟩ | exact ⟨by omega, by omega⟩ | exact ⟨by decide, rfl⟩) rfl rfl) rfl rfl hl.1 rfl (lv_room (Nat.le_of_ble_eq_true rfl)) dL_law_463 ⟨show (66 + 7 * t) + 0 ≤ 600000 by omega, show (641 + 88 * t) + 0 ≤ 7302250 by omega⟩) hS (fun H locs hH hS => ?_)
  refine lv_aload_n hx hb dL_law_466 rfl (lv_at hl 1 rfl) ?_
  refine s_ciE (va_runV (As := []) (rest := [.int _]) ⟨hx, hb, hml, hown, hw⟩ (c_M_put l  ) (cwV 0 hw (gd_V (gwd_8 (List.mem_of_getElem? (i := 15) rfl)) (gwd_8 (List.mem_of_getElem? (i := 16) rfl)) (gwd_8 (List.mem_of_getElem? (i := 17) rfl)) (gwd_0 (List.mem_of_getElem? (i := 3) rfl)) (gwd_8 (List.mem_of_getElem? (i := 18) rfl))) rfl rfl rfl (by decide +kernel) ⟨Nat.le_of_ble_eq_true rfl, Nat.le_of_ble_eq_true rfl⟩) (gPre.V (n := (11, 0, 0)) hK hH (by first | exact ⟨rfl, rfl⟩ | exact ⟨by assumption, rfl⟩ | exact ⟨by assumption, by assumption⟩ | exact ⟨by omega, rfl⟩ | exact ⟨by omega, by omega⟩ | exact ⟨by decide, rfl⟩) rfl rfl) rfl rfl hl.1 rfl (lv_room (Nat.le_of_ble_eq_true rfl)) dL_law_467 ⟨show (66 + 7 * t) + 0 ≤ 600000 by omega, show (641 + 88 * t) + 0 ≤ 7302250 by omega⟩) hS (fun H locs hH hS => ?_)
  refine lv_icmp_eq hx hb dL_law_470 rfl (fun h_1 => ?_) (fun h_1 => ?_)
  · skip
    refine lv_iinc (k := 0) (v := nI (4 * (t + 1))) hx hb dL_law_669 hl rfl (by rw [show 4 * (t + 1) = 4 * t + 4 by omega, ← nI_add]; rfl) (by decide) rfl (fun ls hl => ?_)
    refine lv_goto hx hb dL_law_672 rfl ?_
    refine W.widen (k := (66 + 7 * (t + 1))) (n := (641 + 88 * (t + 1))) (by omega) (by omega) ?_
    exact ih _ _ _ _ _ _ _ ls _ _ hH hR2 hS hl
  · exact absurd hres h_1
set_option maxHeartbeats 4000000 in
set_option maxRecDepth 100000 in
theorem law_12 {p : Program} {l : Launch} {e : Env} {s : State} {m : MethodId} {below : List Frame} {meth : Method} {cd : Code} {b L : Nat} {xs : Nat → Int32} {D : va_G} {c : Nat → ClassId} {Q : State → Prop} (hx : p.tables.exec = Jvm.exec) (hb : cd.code = code) (hml : cd.maxLocals = 4) (hown : s.vm.findClass RL = some m.cls) (hw : ∀ w ∈ gWd, w.before #[Value.ref b] s = true) (hX : va_X b L xs s s.heap) (hbl : b < s.heap.size) (hK : gK D c s) (hL : L ≤ 2048) {ad : gN → Nat} {k : Nat} {I J : gI} {P : gP} {LG : Option Nat} {LP : Option (Nat × Nat)} {H : Heap} {locs : List Loc} {ls : Array Slot} {t : Nat} (ht : 4 * t + 4 ≤ L) (hH : gW D c s.heap.size ad k I J P LG LP H) (hR : gR k I J P LG LP) (hS : va_S (gA s.heap.size) s.heap H locs) (hl : lv_has ls 4 [(3, .int (nI (4 * t))), (2, .ref (ad (11, 0, 0))), (1, .ref (ad (0, 0, 0))), (0, .ref b)]) (ih : ∀ (ad : gN → Nat) (k : Nat) (I J : gI) (P : gP) (LG : Option Nat) (LP : Option (Nat × Nat)) (ls : Array Slot) (H : Heap) (locs : List Loc), gW D c s.heap.size ad k I J P LG LP H → gR k I J P LG LP → va_S (gA s.heap.size) s.heap H locs → lv_has ls 4 [(3, .int (nI (4 * (t + 1)))), (2, .ref (ad (11, 0, 0))), (1, .ref (ad (0, 0, 0))), (0, .ref b)] → W p l e room_1 s m #[Value.ref b] below meth cd H locs (66 + 7 * (t + 1)) (641 + 88 * (t + 1)) Q (F0 m 18 ls [])) : W p l e room_1 s m #[Value.ref b] below meth cd H locs (66 + 7 * t) (641 + 88 * t) Q (F0 m 475 ls []) := by
  have hbA : ¬ gA s.heap.size b := Nat.not_le.mpr hbl
  have hk := hR.1.hk
  have hmd : J (11, 0, 0) 7 = nI k := hR.1.hmd
  have h01 := hR.1.h01
  have hPl := hR.1.hPl
  have hLG := hR.1.hLG
  have hLP := hR.1.hLP
  have hask := hR.1.hask
  have hpc := hR.1.hpc
  have hld := hR.1.hld
  have hmk : I (0, 0, 0) 3 = nI k := hR.1.hmk
  obtain ⟨hres, hR2⟩ := sim_run hR (xs (4 * t + 1)) (xs (4 * t + 2))
  refine lv_aload_n hx hb dL_law_475 rfl (lv_at hl 2 rfl) ?_
  refine lv_aload_n hx hb dL_law_476 rfl (lv_at hl 3 rfl) ?_
  refine lv_iload_n hx hb dL_law_477 rfl (lv_at hl 0 rfl) ?_
  refine lv_iconst (v := 1) hx hb dL_law_478 (by decide) ?_
  refine lv_iadd hx hb dL_law_479 ?_
  refine l_sld hx hb hX hbl hbA hS (4 * t + 1) (by first | exact nI_add (4 * t) 1 | rfl) (by omega) dL_law_480 ?_
  refine lv_aload_n hx hb dL_law_481 rfl (lv_at hl 3 rfl) ?_
  refine lv_iload_n hx hb dL_law_482 rfl (lv_at hl 0 rfl) ?_
  refine lv_iconst (v := 2) hx hb dL_law_483 (by decide) ?_
  refine lv_iadd hx hb dL_law_484 ?_
  refine l_sld hx hb hX hbl hbA hS (4 * t + 2) (by first | exact nI_add (4 * t) 2 | rfl) (by omega) dL_law_485 ?_
  refine s_ciE (va_runV (As := [.int _, .int _]) (rest := []) ⟨hx, hb, hml, hown, hw⟩ (c_K_run l  (hLP) (hPl) (hask) (hpc)) (cwV 2 hw (gd_V (gwd_4 (List.mem_of_getElem? (i := 17) rfl)) (gwd_4 (List.mem_of_getElem? (i := 18) rfl)) (gwd_4 (List.mem_of_getElem? (i := 19) rfl)) (gwd_0 (List.mem_of_getElem? (i := 1) rfl)) (gwd_4 (List.mem_of_getElem? (i := 20) rfl))) rfl rfl rfl (by decide +kernel) ⟨Nat.le_of_ble_eq_true rfl, Nat.le_of_ble_eq_true rfl⟩) (gPre.V (n := (0, 0, 0)) hK hH (by first | exact ⟨rfl, rfl⟩ | exact ⟨by assumption, rfl⟩ | exact ⟨by assumption, by assumption⟩ | exact ⟨by omega, rfl⟩ | exact ⟨by omega, by omega⟩ | exact ⟨by decide, rfl⟩) rfl rfl) rfl rfl hl.1 rfl (lv_room (Nat.le_of_ble_eq_true rfl)) dL_law_486 ⟨show (66 + 7 * t) + 0 ≤ 600000 by omega, show (641 + 88 * t) + 0 ≤ 7302250 by omega⟩) hS (fun H locs hH hS => ?_)
  refine lv_aload_n hx hb dL_law_489 rfl (lv_at hl 1 rfl) ?_
  refine lv_aload_n hx hb dL_law_490 rfl (lv_at hl 3 rfl) ?_
  refine lv_iload_n hx hb dL_law_491 rfl (lv_at hl 0 rfl) ?_
  refine lv_iconst (v := 1) hx hb dL_law_492 (by decide) ?_
  refine lv_iadd hx hb dL_law_493 ?_
  refine l_sld hx hb hX hbl hbA hS (4 * t + 1) (by first | exact nI_add (4 * t) 1 | rfl) (by omega) dL_law_494 ?_
  refine lv_aload_n hx hb dL_law_495 rfl (lv_at hl 3 rfl) ?_
  refine lv_iload_n hx hb dL_law_496 rfl (lv_at hl 0 rfl) ?_
  refine lv_iconst (v := 2) hx hb dL_law_497 (by decide) ?_
  refine lv_iadd hx hb dL_law_498 ?_
  refine l_sld hx hb hX hbl hbA hS (4 * t + 2) (by first | exact nI_add (4 * t) 2 | rfl) (by omega) dL_law_499 ?_
  refine s_ciE (va_runV (As := [.int _, .int _]) (rest := [.int _]) ⟨hx, hb, hml, hown, hw⟩ (c_M_run l  (hld)) (cwV 2 hw (gd_V (gwd_8 (List.mem_of_getElem? (i := 19) rfl)) (gwd_8 (List.mem_of_getElem? (i := 20) rfl)) (gwd_8 (List.mem_of_getElem? (i := 21) rfl)) (gwd_0 (List.mem_of_getElem? (i := 3) rfl)) (gwd_8 (List.mem_of_getElem? (i := 22) rfl))) rfl rfl rfl (by decide +kernel) ⟨Nat.le_of_ble_eq_true rfl, Nat.le_of_ble_eq_true rfl⟩) (gPre.V (n := (11, 0, 0)) hK hH (by first | exact ⟨rfl, rfl⟩ | exact ⟨by assumption, rfl⟩ | exact ⟨by assumption, by assumption⟩ | exact ⟨by omega, rfl⟩ | exact ⟨by omega, by omega⟩ | exact ⟨by decide, rfl⟩) rfl rfl) rfl rfl hl.1 rfl (lv_room (Nat.le_of_ble_eq_true rfl)) dL_law_500 ⟨show (66 + 7 * t) + 0 ≤ 600000 by omega, show (641 + 88 * t) + 0 ≤ 7302250 by omega⟩) hS (fun H locs hH hS => ?_)
  refine lv_icmp_eq hx hb dL_law_503 rfl (fun h_1 => ?_) (fun h_1 => ?_)
  · skip
    refine lv_iinc (k := 0) (v := nI (4 * (t + 1))) hx hb dL_law_669 hl rfl (by rw [show 4 * (t + 1) = 4 * t + 4 by omega, ← nI_add]; rfl) (by decide) rfl (fun ls hl => ?_)
    refine lv_goto hx hb dL_law_672 rfl ?_
    refine W.widen (k := (66 + 7 * (t + 1))) (n := (641 + 88 * (t + 1))) (by omega) (by omega) ?_
    exact ih _ _ _ _ _ _ _ ls _ _ hH hR2 hS hl
  · exact absurd hres h_1
set_option maxHeartbeats 4000000 in
set_option maxRecDepth 100000 in
theorem law_13 {p : Program} {l : Launch} {e : Env} {s : State} {m : MethodId} {below : List Frame} {meth : Method} {cd : Code} {b L : Nat} {xs : Nat → Int32} {D : va_G} {c : Nat → ClassId} {Q : State → Prop} (hx : p.tables.exec = Jvm.exec) (hb : cd.code = code) (hml : cd.maxLocals = 4) (hown : s.vm.findClass RL = some m.cls) (hw : ∀ w ∈ gWd, w.before #[Value.ref b] s = true) (hX : va_X b L xs s s.heap) (hbl : b < s.heap.size) (hK : gK D c s) (hL : L ≤ 2048) {ad : gN → Nat} {k : Nat} {I J : gI} {P : gP} {LG : Option Nat} {LP : Option (Nat × Nat)} {H : Heap} {locs : List Loc} {ls : Array Slot} {t : Nat} (ht : 4 * t + 4 ≤ L) (hH : gW D c s.heap.size ad k I J P LG LP H) (hR : gR k I J P LG LP) (hS : va_S (gA s.heap.size) s.heap H locs) (hl : lv_has ls 4 [(3, .int (nI (4 * t))), (2, .ref (ad (11, 0, 0))), (1, .ref (ad (0, 0, 0))), (0, .ref b)]) (ih : ∀ (ad : gN → Nat) (k : Nat) (I J : gI) (P : gP) (LG : Option Nat) (LP : Option (Nat × Nat)) (ls : Array Slot) (H : Heap) (locs : List Loc), gW D c s.heap.size ad k I J P LG LP H → gR k I J P LG LP → va_S (gA s.heap.size) s.heap H locs → lv_has ls 4 [(3, .int (nI (4 * (t + 1)))), (2, .ref (ad (11, 0, 0))), (1, .ref (ad (0, 0, 0))), (0, .ref b)] → W p l e room_1 s m #[Value.ref b] below meth cd H locs (66 + 7 * (t + 1)) (641 + 88 * (t + 1)) Q (F0 m 18 ls [])) : W p l e room_1 s m #[Value.ref b] below meth cd H locs (66 + 7 * t) (641 + 88 * t) Q (F0 m 508 ls []) := by
  have hbA : ¬ gA s.heap.size b := Nat.not_le.mpr hbl
  have hk := hR.1.hk
  have hmd : J (11, 0, 0) 7 = nI k := hR.1.hmd
  have h01 := hR.1.h01
  have hPl := hR.1.hPl
  have hLG := hR.1.hLG
  have hLP := hR.1.hLP
  have hask := hR.1.hask
  have hpc := hR.1.hpc
  have hld := hR.1.hld
  have hmk : I (0, 0, 0) 3 = nI k := hR.1.hmk
  have hres := hR.2
  refine lv_aload_n hx hb dL_law_508 rfl (lv_at hl 2 rfl) ?_
  refine s_ciE (va_runV (As := []) (rest := []) ⟨hx, hb, hml, hown, hw⟩ (c_K_info l  ) (cwV 0 hw (gd_V (gwd_5 (List.mem_of_getElem? (i := 2) rfl)) (gwd_5 (List.mem_of_getElem? (i := 3) rfl)) (gwd_5 (List.mem_of_getElem? (i := 4) rfl)) (gwd_0 (List.mem_of_getElem? (i := 1) rfl)) (gwd_5 (List.mem_of_getElem? (i := 5) rfl))) rfl rfl rfl (by decide +kernel) ⟨Nat.le_of_ble_eq_true rfl, Nat.le_of_ble_eq_true rfl⟩) (gPre.V (n := (0, 0, 0)) hK hH (by first | exact ⟨rfl, rfl⟩ | exact ⟨by assumption, rfl⟩ | exact ⟨by assumption, by assumption⟩ | exact ⟨by omega, rfl⟩ | exact ⟨by omega, by omega⟩ | exact ⟨by decide, rfl⟩) rfl rfl) rfl rfl hl.1 rfl (lv_room (Nat.le_of_ble_eq_true rfl)) dL_law_509 ⟨show (66 + 7 * t) + 0 ≤ 600000 by omega, show (641 + 88 * t) + 0 ≤ 7302250 by omega⟩) hS (fun H locs hH hS => ?_)
  refine lv_aload_n hx hb dL_law_512 rfl (lv_at hl 1 rfl) ?_
  refine s_ciE (va_runV (As := []) (rest := [.int _]) ⟨hx, hb, hml, hown, hw⟩ (c_M_info l  ) (cwV 0 hw (gd_V (gwd_8 (List.mem_of_getElem? (i := 32) rfl)) (gwd_8 (List.mem_of_getElem? (i := 33) rfl)) (gwd_8 (List.mem_of_getElem? (i := 34) rfl)) (gwd_0 (List.mem_of_getElem? (i := 3) rfl)) (gwd_8 (List.mem_of_getElem? (i := 35) rfl))) rfl rfl rfl (by decide +kernel) ⟨Nat.le_of_ble_eq_true rfl, Nat.le_of_ble_eq_true rfl⟩) (gPre.V (n := (11, 0, 0)) hK hH (by first | exact ⟨rfl, rfl⟩ | exact ⟨by assumption, rfl⟩ | exact ⟨by assumption, by assumption⟩ | exact ⟨by omega, rfl⟩ | exact ⟨by omega, by omega⟩ | exact ⟨by decide, rfl⟩) rfl rfl) rfl rfl hl.1 rfl (lv_room (Nat.le_of_ble_eq_true rfl)) dL_law_513 ⟨show (66 + 7 * t) + 0 ≤ 600000 by omega, show (641 + 88 * t) + 0 ≤ 7302250 by omega⟩) hS (fun H locs hH hS => ?_)
  refine lv_icmp_eq hx hb dL_law_516 rfl (fun h_1 => ?_) (fun h_1 => ?_)
  · skip
    refine lv_iinc (k := 0) (v := nI (4 * (t + 1))) hx hb dL_law_669 hl rfl (by rw [show 4 * (t + 1) = 4 * t + 4 by omega, ← nI_add]; rfl) (by decide) rfl (fun ls hl => ?_)
    refine lv_goto hx hb dL_law_672 rfl ?_
    refine W.widen (k := (66 + 7 * (t + 1))) (n := (641 + 88 * (t + 1))) (by omega) (by omega) ?_
    exact ih _ _ _ _ _ _ _ ls _ _ hH hR hS hl
  · exact absurd hres h_1
set_option maxHeartbeats 4000000 in
set_option maxRecDepth 100000 in
theorem law_14 {p : Program} {l : Launch} {e : Env} {s : State} {m : MethodId} {below : List Frame} {meth : Method} {cd : Code} {b L : Nat} {xs : Nat → Int32} {D : va_G} {c : Nat → ClassId} {Q : State → Prop} (hx : p.tables.exec = Jvm.exec) (hb : cd.code = code) (hml : cd.maxLocals = 4) (hown : s.vm.findClass RL = some m.cls) (hw : ∀ w ∈ gWd, w.before #[Value.ref b] s = true) (hX : va_X b L xs s s.heap) (hbl : b < s.heap.size) (hK : gK D c s) (hL : L ≤ 2048) {ad : gN → Nat} {k : Nat} {I J : gI} {P : gP} {LG : Option Nat} {LP : Option (Nat × Nat)} {H : Heap} {locs : List Loc} {ls : Array Slot} {t : Nat} (ht : 4 * t + 4 ≤ L) (hH : gW D c s.heap.size ad k I J P LG LP H) (hR : gR k I J P LG LP) (hS : va_S (gA s.heap.size) s.heap H locs) (hl : lv_has ls 4 [(3, .int (nI (4 * t))), (2, .ref (ad (11, 0, 0))), (1, .ref (ad (0, 0, 0))), (0, .ref b)]) (ih : ∀ (ad : gN → Nat) (k : Nat) (I J : gI) (P : gP) (LG : Option Nat) (LP : Option (Nat × Nat)) (ls : Array Slot) (H : Heap) (locs : List Loc), gW D c s.heap.size ad k I J P LG LP H → gR k I J P LG LP → va_S (gA s.heap.size) s.heap H locs → lv_has ls 4 [(3, .int (nI (4 * (t + 1)))), (2, .ref (ad (11, 0, 0))), (1, .ref (ad (0, 0, 0))), (0, .ref b)] → W p l e room_1 s m #[Value.ref b] below meth cd H locs (66 + 7 * (t + 1)) (641 + 88 * (t + 1)) Q (F0 m 18 ls [])) : W p l e room_1 s m #[Value.ref b] below meth cd H locs (66 + 7 * t) (641 + 88 * t) Q (F0 m 521 ls []) := by
  have hbA : ¬ gA s.heap.size b := Nat.not_le.mpr hbl
  have hk := hR.1.hk
  have hmd : J (11, 0, 0) 7 = nI k := hR.1.hmd
  have h01 := hR.1.h01
  have hPl := hR.1.hPl
  have hLG := hR.1.hLG
  have hLP := hR.1.hLP
  have hask := hR.1.hask
  have hpc := hR.1.hpc
  have hld := hR.1.hld
  have hmk : I (0, 0, 0) 3 = nI k := hR.1.hmk
  obtain ⟨hres, hR2⟩ := sim_set hR (xs (4 * t + 1)) (xs (4 * t + 2))
  refine lv_aload_n hx hb dL_law_521 rfl (lv_at hl 2 rfl) ?_
  refine lv_aload_n hx hb dL_law_522 rfl (lv_at hl 3 rfl) ?_
  refine lv_iload_n hx hb dL_law_523 rfl (lv_at hl 0 rfl) ?_
  refine lv_iconst (v := 1) hx hb dL_law_524 (by decide) ?_
  refine lv_iadd hx hb dL_law_525 ?_
  refine l_sld hx hb hX hbl hbA hS (4 * t + 1) (by first | exact nI_add (4 * t) 1 | rfl) (by omega) dL_law_526 ?_
  refine lv_aload_n hx hb dL_law_527 rfl (lv_at hl 3 rfl) ?_
  refine lv_iload_n hx hb dL_law_528 rfl (lv_at hl 0 rfl) ?_
  refine lv_iconst (v := 2) hx hb dL_law_529 (by decide) ?_
  refine lv_iadd hx hb dL_law_530 ?_
  refine l_sld hx hb hX hbl hbA hS (4 * t + 2) (by first | exact nI_add (4 * t) 2 | rfl) (by omega) dL_law_531 ?_
  refine s_ciE (va_runV (As := [.int _, .int _]) (rest := []) ⟨hx, hb, hml, hown, hw⟩ (c_K_set l  ) (cwV 2 hw (gd_V (gwd_5 (List.mem_of_getElem? (i := 6) rfl)) (gwd_5 (List.mem_of_getElem? (i := 7) rfl)) (gwd_5 (List.mem_of_getElem? (i := 8) rfl)) (gwd_0 (List.mem_of_getElem? (i := 1) rfl)) (gwd_5 (List.mem_of_getElem? (i := 9) rfl))) rfl rfl rfl (by decide +kernel) ⟨Nat.le_of_ble_eq_true rfl, Nat.le_of_ble_eq_true rfl⟩) (gPre.V (n := (0, 0, 0)) hK hH (by first | exact ⟨rfl, rfl⟩ | exact ⟨by assumption, rfl⟩ | exact ⟨by assumption, by assumption⟩ | exact ⟨by omega, rfl⟩ | exact ⟨by omega, by omega⟩ | exact ⟨by decide, rfl⟩) rfl rfl) rfl rfl hl.1 rfl (lv_room (Nat.le_of_ble_eq_true rfl)) dL_law_532 ⟨show (66 + 7 * t) + 0 ≤ 600000 by omega, show (641 + 88 * t) + 0 ≤ 7302250 by omega⟩) hS (fun H locs hH hS => ?_)
  refine lv_aload_n hx hb dL_law_535 rfl (lv_at hl 1 rfl) ?_
  refine lv_aload_n hx hb dL_law_536 rfl (lv_at hl 3 rfl) ?_
  refine lv_iload_n hx hb dL_law_537 rfl (lv_at hl 0 rfl) ?_
  refine lv_iconst (v := 1) hx hb dL_law_538 (by decide) ?_
  refine lv_iadd hx hb dL_law_539 ?_
  refine l_sld hx hb hX hbl hbA hS (4 * t + 1) (by first | exact nI_add (4 * t) 1 | rfl) (by omega) dL_law_540 ?_
  refine lv_aload_n hx hb dL_law_541 rfl (lv_at hl 3 rfl) ?_
  refine lv_iload_n hx hb dL_law_542 rfl (lv_at hl 0 rfl) ?_
  refine lv_iconst (v := 2) hx hb dL_law_543 (by decide) ?_
  refine lv_iadd hx hb dL_law_544 ?_
  refine l_sld hx hb hX hbl hbA hS (4 * t + 2) (by first | exact nI_add (4 * t) 2 | rfl) (by omega) dL_law_545 ?_
  refine s_ciE (va_runV (As := [.int _, .int _]) (rest := [.int _]) ⟨hx, hb, hml, hown, hw⟩ (c_M_set l  ) (cwV 2 hw (gd_V (gwd_8 (List.mem_of_getElem? (i := 36) rfl)) (gwd_8 (List.mem_of_getElem? (i := 37) rfl)) (gwd_8 (List.mem_of_getElem? (i := 38) rfl)) (gwd_0 (List.mem_of_getElem? (i := 3) rfl)) (gwd_8 (List.mem_of_getElem? (i := 39) rfl))) rfl rfl rfl (by decide +kernel) ⟨Nat.le_of_ble_eq_true rfl, Nat.le_of_ble_eq_true rfl⟩) (gPre.V (n := (11, 0, 0)) hK hH (by first | exact ⟨rfl, rfl⟩ | exact ⟨by assumption, rfl⟩ | exact ⟨by assumption, by assumption⟩ | exact ⟨by omega, rfl⟩ | exact ⟨by omega, by omega⟩ | exact ⟨by decide, rfl⟩) rfl rfl) rfl rfl hl.1 rfl (lv_room (Nat.le_of_ble_eq_true rfl)) dL_law_546 ⟨show (66 + 7 * t) + 0 ≤ 600000 by omega, show (641 + 88 * t) + 0 ≤ 7302250 by omega⟩) hS (fun H locs hH hS => ?_)
  refine lv_icmp_eq hx hb dL_law_549 rfl (fun h_1 => ?_) (fun h_1 => ?_)
  · skip
    refine lv_iinc (k := 0) (v := nI (4 * (t + 1))) hx hb dL_law_669 hl rfl (by rw [show 4 * (t + 1) = 4 * t + 4 by omega, ← nI_add]; rfl) (by decide) rfl (fun ls hl => ?_)
    refine lv_goto hx hb dL_law_672 rfl ?_
    refine W.widen (k := (66 + 7 * (t + 1))) (n := (641 + 88 * (t + 1))) (by omega) (by omega) ?_
    exact ih _ _ _ _ _ _ _ ls _ _ hH hR2 hS hl
  · exact absurd hres h_1
set_option maxHeartbeats 4000000 in
set_option maxRecDepth 100000 in
theorem law_15 {p : Program} {l : Launch} {e : Env} {s : State} {m : MethodId} {below : List Frame} {meth : Method} {cd : Code} {b L : Nat} {xs : Nat → Int32} {D : va_G} {c : Nat → ClassId} {Q : State → Prop} (hx : p.tables.exec = Jvm.exec) (hb : cd.code = code) (hml : cd.maxLocals = 4) (hown : s.vm.findClass RL = some m.cls) (hw : ∀ w ∈ gWd, w.before #[Value.ref b] s = true) (hX : va_X b L xs s s.heap) (hbl : b < s.heap.size) (hK : gK D c s) (hL : L ≤ 2048) {ad : gN → Nat} {k : Nat} {I J : gI} {P : gP} {LG : Option Nat} {LP : Option (Nat × Nat)} {H : Heap} {locs : List Loc} {ls : Array Slot} {t : Nat} (ht : 4 * t + 4 ≤ L) (hH : gW D c s.heap.size ad k I J P LG LP H) (hR : gR k I J P LG LP) (hS : va_S (gA s.heap.size) s.heap H locs) (hl : lv_has ls 4 [(3, .int (nI (4 * t))), (2, .ref (ad (11, 0, 0))), (1, .ref (ad (0, 0, 0))), (0, .ref b)]) (ih : ∀ (ad : gN → Nat) (k : Nat) (I J : gI) (P : gP) (LG : Option Nat) (LP : Option (Nat × Nat)) (ls : Array Slot) (H : Heap) (locs : List Loc), gW D c s.heap.size ad k I J P LG LP H → gR k I J P LG LP → va_S (gA s.heap.size) s.heap H locs → lv_has ls 4 [(3, .int (nI (4 * (t + 1)))), (2, .ref (ad (11, 0, 0))), (1, .ref (ad (0, 0, 0))), (0, .ref b)] → W p l e room_1 s m #[Value.ref b] below meth cd H locs (66 + 7 * (t + 1)) (641 + 88 * (t + 1)) Q (F0 m 18 ls [])) : W p l e room_1 s m #[Value.ref b] below meth cd H locs (66 + 7 * t) (641 + 88 * t) Q (F0 m 554 ls []) := by
  have hbA : ¬ gA s.heap.size b := Nat.not_le.mpr hbl
  have hk := hR.1.hk
  have hmd : J (11, 0, 0) 7 = nI k := hR.1.hmd
  have h01 := hR.1.h01
  have hPl := hR.1.hPl
  have hLG := hR.1.hLG
  have hLP := hR.1.hLP
  have hask := hR.1.hask
  have hpc := hR.1.hpc
  have hld := hR.1.hld
  have hmk : I (0, 0, 0) 3 = nI k := hR.1.hmk
  have hres := sim_reg hR (xs (4 * t + 1))
  refine lv_aload_n hx hb dL_law_554 rfl (lv_at hl 2 rfl) ?_
  refine lv_aload_n hx hb dL_law_555 rfl (lv_at hl 3 rfl) ?_
  refine lv_iload_n hx hb dL_law_556 rfl (lv_at hl 0 rfl) ?_
  refine lv_iconst (v := 1) hx hb dL_law_557 (by decide) ?_
  refine lv_iadd hx hb dL_law_558 ?_
  refine l_sld hx hb hX hbl hbA hS (4 * t + 1) (by first | exact nI_add (4 * t) 1 | rfl) (by omega) dL_law_559 ?_
  refine s_ciE (va_runV (As := [.int _]) (rest := []) ⟨hx, hb, hml, hown, hw⟩ (c_K_register l  ) (cwV 1 hw (gd_V (gwd_5 (List.mem_of_getElem? (i := 13) rfl)) (gwd_5 (List.mem_of_getElem? (i := 14) rfl)) (gwd_5 (List.mem_of_getElem? (i := 15) rfl)) (gwd_0 (List.mem_of_getElem? (i := 1) rfl)) (gwd_5 (List.mem_of_getElem? (i := 16) rfl))) rfl rfl rfl (by decide +kernel) ⟨Nat.le_of_ble_eq_true rfl, Nat.le_of_ble_eq_true rfl⟩) (gPre.V (n := (0, 0, 0)) hK hH (by first | exact ⟨rfl, rfl⟩ | exact ⟨by assumption, rfl⟩ | exact ⟨by assumption, by assumption⟩ | exact ⟨by omega, rfl⟩ | exact ⟨by omega, by omega⟩ | exact ⟨by decide, rfl⟩) rfl rfl) rfl rfl hl.1 rfl (lv_room (Nat.le_of_ble_eq_true rfl)) dL_law_560 ⟨show (66 + 7 * t) + 0 ≤ 600000 by omega, show (641 + 88 * t) + 0 ≤ 7302250 by omega⟩) hS (fun H locs hH hS => ?_)
  refine lv_aload_n hx hb dL_law_563 rfl (lv_at hl 1 rfl) ?_
  refine lv_aload_n hx hb dL_law_564 rfl (lv_at hl 3 rfl) ?_
  refine lv_iload_n hx hb dL_law_565 rfl (lv_at hl 0 rfl) ?_
  refine lv_iconst (v := 1) hx hb dL_law_566 (by decide) ?_
  refine lv_iadd hx hb dL_law_567 ?_
  refine l_sld hx hb hX hbl hbA hS (4 * t + 1) (by first | exact nI_add (4 * t) 1 | rfl) (by omega) dL_law_568 ?_
  refine s_ciE (va_runV (As := [.int _]) (rest := [.int _]) ⟨hx, hb, hml, hown, hw⟩ (c_M_register l  ) (cwV 1 hw (gd_V (gwd_8 (List.mem_of_getElem? (i := 40) rfl)) (gwd_8 (List.mem_of_getElem? (i := 41) rfl)) (gwd_8 (List.mem_of_getElem? (i := 42) rfl)) (gwd_0 (List.mem_of_getElem? (i := 3) rfl)) (gwd_8 (List.mem_of_getElem? (i := 43) rfl))) rfl rfl rfl (by decide +kernel) ⟨Nat.le_of_ble_eq_true rfl, Nat.le_of_ble_eq_true rfl⟩) (gPre.V (n := (11, 0, 0)) hK hH (by first | exact ⟨rfl, rfl⟩ | exact ⟨by assumption, rfl⟩ | exact ⟨by assumption, by assumption⟩ | exact ⟨by omega, rfl⟩ | exact ⟨by omega, by omega⟩ | exact ⟨by decide, rfl⟩) rfl rfl) rfl rfl hl.1 rfl (lv_room (Nat.le_of_ble_eq_true rfl)) dL_law_569 ⟨show (66 + 7 * t) + 0 ≤ 600000 by omega, show (641 + 88 * t) + 0 ≤ 7302250 by omega⟩) hS (fun H locs hH hS => ?_)
  refine lv_icmp_eq hx hb dL_law_572 rfl (fun h_1 => ?_) (fun h_1 => ?_)
  · skip
    refine lv_iinc (k := 0) (v := nI (4 * (t + 1))) hx hb dL_law_669 hl rfl (by rw [show 4 * (t + 1) = 4 * t + 4 by omega, ← nI_add]; rfl) (by decide) rfl (fun ls hl => ?_)
    refine lv_goto hx hb dL_law_672 rfl ?_
    refine W.widen (k := (66 + 7 * (t + 1))) (n := (641 + 88 * (t + 1))) (by omega) (by omega) ?_
    exact ih _ _ _ _ _ _ _ ls _ _ hH hR hS hl
  · exact absurd hres h_1
set_option maxHeartbeats 4000000 in
set_option maxRecDepth 100000 in
theorem law_16 {p : Program} {l : Launch} {e : Env} {s : State} {m : MethodId} {below : List Frame} {meth : Method} {cd : Code} {b L : Nat} {xs : Nat → Int32} {D : va_G} {c : Nat → ClassId} {Q : State → Prop} (hx : p.tables.exec = Jvm.exec) (hb : cd.code = code) (hml : cd.maxLocals = 4) (hown : s.vm.findClass RL = some m.cls) (hw : ∀ w ∈ gWd, w.before #[Value.ref b] s = true) (hX : va_X b L xs s s.heap) (hbl : b < s.heap.size) (hK : gK D c s) (hL : L ≤ 2048) {ad : gN → Nat} {k : Nat} {I J : gI} {P : gP} {LG : Option Nat} {LP : Option (Nat × Nat)} {H : Heap} {locs : List Loc} {ls : Array Slot} {t : Nat} (ht : 4 * t + 4 ≤ L) (hH : gW D c s.heap.size ad k I J P LG LP H) (hR : gR k I J P LG LP) (hS : va_S (gA s.heap.size) s.heap H locs) (hl : lv_has ls 4 [(3, .int (nI (4 * t))), (2, .ref (ad (11, 0, 0))), (1, .ref (ad (0, 0, 0))), (0, .ref b)]) (ih : ∀ (ad : gN → Nat) (k : Nat) (I J : gI) (P : gP) (LG : Option Nat) (LP : Option (Nat × Nat)) (ls : Array Slot) (H : Heap) (locs : List Loc), gW D c s.heap.size ad k I J P LG LP H → gR k I J P LG LP → va_S (gA s.heap.size) s.heap H locs → lv_has ls 4 [(3, .int (nI (4 * (t + 1)))), (2, .ref (ad (11, 0, 0))), (1, .ref (ad (0, 0, 0))), (0, .ref b)] → W p l e room_1 s m #[Value.ref b] below meth cd H locs (66 + 7 * (t + 1)) (641 + 88 * (t + 1)) Q (F0 m 18 ls [])) : W p l e room_1 s m #[Value.ref b] below meth cd H locs (66 + 7 * t) (641 + 88 * t) Q (F0 m 577 ls []) := by
  have hbA : ¬ gA s.heap.size b := Nat.not_le.mpr hbl
  have hk := hR.1.hk
  have hmd : J (11, 0, 0) 7 = nI k := hR.1.hmd
  have h01 := hR.1.h01
  have hPl := hR.1.hPl
  have hLG := hR.1.hLG
  have hLP := hR.1.hLP
  have hask := hR.1.hask
  have hpc := hR.1.hpc
  have hld := hR.1.hld
  have hmk : I (0, 0, 0) 3 = nI k := hR.1.hmk
  have hres := sim_owner hR (xs (4 * t + 1))
  refine lv_aload_n hx hb dL_law_577 rfl (lv_at hl 2 rfl) ?_
  refine lv_aload_n hx hb dL_law_578 rfl (lv_at hl 3 rfl) ?_
  refine lv_iload_n hx hb dL_law_579 rfl (lv_at hl 0 rfl) ?_
  refine lv_iconst (v := 1) hx hb dL_law_580 (by decide) ?_
  refine lv_iadd hx hb dL_law_581 ?_
  refine l_sld hx hb hX hbl hbA hS (4 * t + 1) (by first | exact nI_add (4 * t) 1 | rfl) (by omega) dL_law_582 ?_
  refine s_ciE (va_runV (As := [.int _]) (rest := []) ⟨hx, hb, hml, hown, hw⟩ (c_K_owner l  ) (cwV 1 hw (gd_V (gwd_5 (List.mem_of_getElem? (i := 17) rfl)) (gwd_5 (List.mem_of_getElem? (i := 18) rfl)) (gwd_5 (List.mem_of_getElem? (i := 19) rfl)) (gwd_0 (List.mem_of_getElem? (i := 1) rfl)) (gwd_5 (List.mem_of_getElem? (i := 20) rfl))) rfl rfl rfl (by decide +kernel) ⟨Nat.le_of_ble_eq_true rfl, Nat.le_of_ble_eq_true rfl⟩) (gPre.V (n := (0, 0, 0)) hK hH (by first | exact ⟨rfl, rfl⟩ | exact ⟨by assumption, rfl⟩ | exact ⟨by assumption, by assumption⟩ | exact ⟨by omega, rfl⟩ | exact ⟨by omega, by omega⟩ | exact ⟨by decide, rfl⟩) rfl rfl) rfl rfl hl.1 rfl (lv_room (Nat.le_of_ble_eq_true rfl)) dL_law_583 ⟨show (66 + 7 * t) + 0 ≤ 600000 by omega, show (641 + 88 * t) + 0 ≤ 7302250 by omega⟩) hS (fun H locs hH hS => ?_)
  refine lv_aload_n hx hb dL_law_586 rfl (lv_at hl 1 rfl) ?_
  refine lv_aload_n hx hb dL_law_587 rfl (lv_at hl 3 rfl) ?_
  refine lv_iload_n hx hb dL_law_588 rfl (lv_at hl 0 rfl) ?_
  refine lv_iconst (v := 1) hx hb dL_law_589 (by decide) ?_
  refine lv_iadd hx hb dL_law_590 ?_
  refine l_sld hx hb hX hbl hbA hS (4 * t + 1) (by first | exact nI_add (4 * t) 1 | rfl) (by omega) dL_law_591 ?_
  refine s_ciE (va_runV (As := [.int _]) (rest := [.int _]) ⟨hx, hb, hml, hown, hw⟩ (c_M_owner l  ) (cwV 1 hw (gd_V (gwd_8 (List.mem_of_getElem? (i := 44) rfl)) (gwd_8 (List.mem_of_getElem? (i := 45) rfl)) (gwd_8 (List.mem_of_getElem? (i := 46) rfl)) (gwd_0 (List.mem_of_getElem? (i := 3) rfl)) (gwd_8 (List.mem_of_getElem? (i := 47) rfl))) rfl rfl rfl (by decide +kernel) ⟨Nat.le_of_ble_eq_true rfl, Nat.le_of_ble_eq_true rfl⟩) (gPre.V (n := (11, 0, 0)) hK hH (by first | exact ⟨rfl, rfl⟩ | exact ⟨by assumption, rfl⟩ | exact ⟨by assumption, by assumption⟩ | exact ⟨by omega, rfl⟩ | exact ⟨by omega, by omega⟩ | exact ⟨by decide, rfl⟩) rfl rfl) rfl rfl hl.1 rfl (lv_room (Nat.le_of_ble_eq_true rfl)) dL_law_592 ⟨show (66 + 7 * t) + 0 ≤ 600000 by omega, show (641 + 88 * t) + 0 ≤ 7302250 by omega⟩) hS (fun H locs hH hS => ?_)
  refine lv_icmp_eq hx hb dL_law_595 rfl (fun h_1 => ?_) (fun h_1 => ?_)
  · skip
    refine lv_iinc (k := 0) (v := nI (4 * (t + 1))) hx hb dL_law_669 hl rfl (by rw [show 4 * (t + 1) = 4 * t + 4 by omega, ← nI_add]; rfl) (by decide) rfl (fun ls hl => ?_)
    refine lv_goto hx hb dL_law_672 rfl ?_
    refine W.widen (k := (66 + 7 * (t + 1))) (n := (641 + 88 * (t + 1))) (by omega) (by omega) ?_
    exact ih _ _ _ _ _ _ _ ls _ _ hH hR hS hl
  · exact absurd hres h_1
set_option maxHeartbeats 4000000 in
set_option maxRecDepth 100000 in
theorem law_17 {p : Program} {l : Launch} {e : Env} {s : State} {m : MethodId} {below : List Frame} {meth : Method} {cd : Code} {b L : Nat} {xs : Nat → Int32} {D : va_G} {c : Nat → ClassId} {Q : State → Prop} (hx : p.tables.exec = Jvm.exec) (hb : cd.code = code) (hml : cd.maxLocals = 4) (hown : s.vm.findClass RL = some m.cls) (hw : ∀ w ∈ gWd, w.before #[Value.ref b] s = true) (hX : va_X b L xs s s.heap) (hbl : b < s.heap.size) (hK : gK D c s) (hL : L ≤ 2048) {ad : gN → Nat} {k : Nat} {I J : gI} {P : gP} {LG : Option Nat} {LP : Option (Nat × Nat)} {H : Heap} {locs : List Loc} {ls : Array Slot} {t : Nat} (ht : 4 * t + 4 ≤ L) (hH : gW D c s.heap.size ad k I J P LG LP H) (hR : gR k I J P LG LP) (hS : va_S (gA s.heap.size) s.heap H locs) (hl : lv_has ls 4 [(3, .int (nI (4 * t))), (2, .ref (ad (11, 0, 0))), (1, .ref (ad (0, 0, 0))), (0, .ref b)]) (ih : ∀ (ad : gN → Nat) (k : Nat) (I J : gI) (P : gP) (LG : Option Nat) (LP : Option (Nat × Nat)) (ls : Array Slot) (H : Heap) (locs : List Loc), gW D c s.heap.size ad k I J P LG LP H → gR k I J P LG LP → va_S (gA s.heap.size) s.heap H locs → lv_has ls 4 [(3, .int (nI (4 * (t + 1)))), (2, .ref (ad (11, 0, 0))), (1, .ref (ad (0, 0, 0))), (0, .ref b)] → W p l e room_1 s m #[Value.ref b] below meth cd H locs (66 + 7 * (t + 1)) (641 + 88 * (t + 1)) Q (F0 m 18 ls [])) : W p l e room_1 s m #[Value.ref b] below meth cd H locs (66 + 7 * t) (641 + 88 * t) Q (F0 m 600 ls []) := by
  have hbA : ¬ gA s.heap.size b := Nat.not_le.mpr hbl
  have hk := hR.1.hk
  have hmd : J (11, 0, 0) 7 = nI k := hR.1.hmd
  have h01 := hR.1.h01
  have hPl := hR.1.hPl
  have hLG := hR.1.hLG
  have hLP := hR.1.hLP
  have hask := hR.1.hask
  have hpc := hR.1.hpc
  have hld := hR.1.hld
  have hmk : I (0, 0, 0) 3 = nI k := hR.1.hmk
  have hres := sim_state hR (xs (4 * t + 1))
  refine lv_aload_n hx hb dL_law_600 rfl (lv_at hl 2 rfl) ?_
  refine lv_aload_n hx hb dL_law_601 rfl (lv_at hl 3 rfl) ?_
  refine lv_iload_n hx hb dL_law_602 rfl (lv_at hl 0 rfl) ?_
  refine lv_iconst (v := 1) hx hb dL_law_603 (by decide) ?_
  refine lv_iadd hx hb dL_law_604 ?_
  refine l_sld hx hb hX hbl hbA hS (4 * t + 1) (by first | exact nI_add (4 * t) 1 | rfl) (by omega) dL_law_605 ?_
  refine s_ciE (va_runV (As := [.int _]) (rest := []) ⟨hx, hb, hml, hown, hw⟩ (c_K_state l  ) (cwV 1 hw (gd_V (gwd_5 (List.mem_of_getElem? (i := 21) rfl)) (gwd_5 (List.mem_of_getElem? (i := 22) rfl)) (gwd_5 (List.mem_of_getElem? (i := 23) rfl)) (gwd_0 (List.mem_of_getElem? (i := 1) rfl)) (gwd_5 (List.mem_of_getElem? (i := 24) rfl))) rfl rfl rfl (by decide +kernel) ⟨Nat.le_of_ble_eq_true rfl, Nat.le_of_ble_eq_true rfl⟩) (gPre.V (n := (0, 0, 0)) hK hH (by first | exact ⟨rfl, rfl⟩ | exact ⟨by assumption, rfl⟩ | exact ⟨by assumption, by assumption⟩ | exact ⟨by omega, rfl⟩ | exact ⟨by omega, by omega⟩ | exact ⟨by decide, rfl⟩) rfl rfl) rfl rfl hl.1 rfl (lv_room (Nat.le_of_ble_eq_true rfl)) dL_law_606 ⟨show (66 + 7 * t) + 0 ≤ 600000 by omega, show (641 + 88 * t) + 0 ≤ 7302250 by omega⟩) hS (fun H locs hH hS => ?_)
  refine lv_aload_n hx hb dL_law_609 rfl (lv_at hl 1 rfl) ?_
  refine lv_aload_n hx hb dL_law_610 rfl (lv_at hl 3 rfl) ?_
  refine lv_iload_n hx hb dL_law_611 rfl (lv_at hl 0 rfl) ?_
  refine lv_iconst (v := 1) hx hb dL_law_612 (by decide) ?_
  refine lv_iadd hx hb dL_law_613 ?_
  refine l_sld hx hb hX hbl hbA hS (4 * t + 1) (by first | exact nI_add (4 * t) 1 | rfl) (by omega) dL_law_614 ?_
  refine s_ciE (va_runV (As := [.int _]) (rest := [.int _]) ⟨hx, hb, hml, hown, hw⟩ (c_M_state l  ) (cwV 1 hw (gd_V (gwd_9 (List.mem_of_getElem? (i := 0) rfl)) (gwd_9 (List.mem_of_getElem? (i := 1) rfl)) (gwd_9 (List.mem_of_getElem? (i := 2) rfl)) (gwd_0 (List.mem_of_getElem? (i := 3) rfl)) (gwd_9 (List.mem_of_getElem? (i := 3) rfl))) rfl rfl rfl (by decide +kernel) ⟨Nat.le_of_ble_eq_true rfl, Nat.le_of_ble_eq_true rfl⟩) (gPre.V (n := (11, 0, 0)) hK hH (by first | exact ⟨rfl, rfl⟩ | exact ⟨by assumption, rfl⟩ | exact ⟨by assumption, by assumption⟩ | exact ⟨by omega, rfl⟩ | exact ⟨by omega, by omega⟩ | exact ⟨by decide, rfl⟩) rfl rfl) rfl rfl hl.1 rfl (lv_room (Nat.le_of_ble_eq_true rfl)) dL_law_615 ⟨show (66 + 7 * t) + 0 ≤ 600000 by omega, show (641 + 88 * t) + 0 ≤ 7302250 by omega⟩) hS (fun H locs hH hS => ?_)
  refine lv_icmp_eq hx hb dL_law_618 rfl (fun h_1 => ?_) (fun h_1 => ?_)
  · skip
    refine lv_iinc (k := 0) (v := nI (4 * (t + 1))) hx hb dL_law_669 hl rfl (by rw [show 4 * (t + 1) = 4 * t + 4 by omega, ← nI_add]; rfl) (by decide) rfl (fun ls hl => ?_)
    refine lv_goto hx hb dL_law_672 rfl ?_
    refine W.widen (k := (66 + 7 * (t + 1))) (n := (641 + 88 * (t + 1))) (by omega) (by omega) ?_
    exact ih _ _ _ _ _ _ _ ls _ _ hH hR hS hl
  · exact absurd hres h_1
set_option maxHeartbeats 4000000 in
set_option maxRecDepth 100000 in
theorem law_18 {p : Program} {l : Launch} {e : Env} {s : State} {m : MethodId} {below : List Frame} {meth : Method} {cd : Code} {b L : Nat} {xs : Nat → Int32} {D : va_G} {c : Nat → ClassId} {Q : State → Prop} (hx : p.tables.exec = Jvm.exec) (hb : cd.code = code) (hml : cd.maxLocals = 4) (hown : s.vm.findClass RL = some m.cls) (hw : ∀ w ∈ gWd, w.before #[Value.ref b] s = true) (hX : va_X b L xs s s.heap) (hbl : b < s.heap.size) (hK : gK D c s) (hL : L ≤ 2048) {ad : gN → Nat} {k : Nat} {I J : gI} {P : gP} {LG : Option Nat} {LP : Option (Nat × Nat)} {H : Heap} {locs : List Loc} {ls : Array Slot} {t : Nat} (ht : 4 * t + 4 ≤ L) (hH : gW D c s.heap.size ad k I J P LG LP H) (hR : gR k I J P LG LP) (hS : va_S (gA s.heap.size) s.heap H locs) (hl : lv_has ls 4 [(3, .int (nI (4 * t))), (2, .ref (ad (11, 0, 0))), (1, .ref (ad (0, 0, 0))), (0, .ref b)]) (ih : ∀ (ad : gN → Nat) (k : Nat) (I J : gI) (P : gP) (LG : Option Nat) (LP : Option (Nat × Nat)) (ls : Array Slot) (H : Heap) (locs : List Loc), gW D c s.heap.size ad k I J P LG LP H → gR k I J P LG LP → va_S (gA s.heap.size) s.heap H locs → lv_has ls 4 [(3, .int (nI (4 * (t + 1)))), (2, .ref (ad (11, 0, 0))), (1, .ref (ad (0, 0, 0))), (0, .ref b)] → W p l e room_1 s m #[Value.ref b] below meth cd H locs (66 + 7 * (t + 1)) (641 + 88 * (t + 1)) Q (F0 m 18 ls [])) : W p l e room_1 s m #[Value.ref b] below meth cd H locs (66 + 7 * t) (641 + 88 * t) Q (F0 m 623 ls []) := by
  have hbA : ¬ gA s.heap.size b := Nat.not_le.mpr hbl
  have hk := hR.1.hk
  have hmd : J (11, 0, 0) 7 = nI k := hR.1.hmd
  have h01 := hR.1.h01
  have hPl := hR.1.hPl
  have hLG := hR.1.hLG
  have hLP := hR.1.hLP
  have hask := hR.1.hask
  have hpc := hR.1.hpc
  have hld := hR.1.hld
  have hmk : I (0, 0, 0) 3 = nI k := hR.1.hmk
  have hres := sim_pool hR (xs (4 * t + 1))
  refine lv_aload_n hx hb dL_law_623 rfl (lv_at hl 2 rfl) ?_
  refine lv_aload_n hx hb dL_law_624 rfl (lv_at hl 3 rfl) ?_
  refine lv_iload_n hx hb dL_law_625 rfl (lv_at hl 0 rfl) ?_
  refine lv_iconst (v := 1) hx hb dL_law_626 (by decide) ?_
  refine lv_iadd hx hb dL_law_627 ?_
  refine l_sld hx hb hX hbl hbA hS (4 * t + 1) (by first | exact nI_add (4 * t) 1 | rfl) (by omega) dL_law_628 ?_
  refine s_ciE (va_runV (As := [.int _]) (rest := []) ⟨hx, hb, hml, hown, hw⟩ (c_K_pool l  (hPl)) (cwV 1 hw (gd_V (gwd_5 (List.mem_of_getElem? (i := 25) rfl)) (gwd_5 (List.mem_of_getElem? (i := 26) rfl)) (gwd_5 (List.mem_of_getElem? (i := 27) rfl)) (gwd_0 (List.mem_of_getElem? (i := 1) rfl)) (gwd_5 (List.mem_of_getElem? (i := 28) rfl))) rfl rfl rfl (by decide +kernel) ⟨Nat.le_of_ble_eq_true rfl, Nat.le_of_ble_eq_true rfl⟩) (gPre.V (n := (0, 0, 0)) hK hH (by first | exact ⟨rfl, rfl⟩ | exact ⟨by assumption, rfl⟩ | exact ⟨by assumption, by assumption⟩ | exact ⟨by omega, rfl⟩ | exact ⟨by omega, by omega⟩ | exact ⟨by decide, rfl⟩) rfl rfl) rfl rfl hl.1 rfl (lv_room (Nat.le_of_ble_eq_true rfl)) dL_law_629 ⟨show (66 + 7 * t) + 0 ≤ 600000 by omega, show (641 + 88 * t) + 0 ≤ 7302250 by omega⟩) hS (fun H locs hH hS => ?_)
  refine lv_aload_n hx hb dL_law_632 rfl (lv_at hl 1 rfl) ?_
  refine lv_aload_n hx hb dL_law_633 rfl (lv_at hl 3 rfl) ?_
  refine lv_iload_n hx hb dL_law_634 rfl (lv_at hl 0 rfl) ?_
  refine lv_iconst (v := 1) hx hb dL_law_635 (by decide) ?_
  refine lv_iadd hx hb dL_law_636 ?_
  refine l_sld hx hb hX hbl hbA hS (4 * t + 1) (by first | exact nI_add (4 * t) 1 | rfl) (by omega) dL_law_637 ?_
  refine s_ciE (va_runV (As := [.int _]) (rest := [.int _]) ⟨hx, hb, hml, hown, hw⟩ (c_M_pool l  (by assumption) (by assumption)) (cwV 1 hw (gd_V (gwd_9 (List.mem_of_getElem? (i := 4) rfl)) (gwd_9 (List.mem_of_getElem? (i := 5) rfl)) (gwd_9 (List.mem_of_getElem? (i := 6) rfl)) (gwd_0 (List.mem_of_getElem? (i := 3) rfl)) (gwd_9 (List.mem_of_getElem? (i := 7) rfl))) rfl rfl rfl (by decide +kernel) ⟨Nat.le_of_ble_eq_true rfl, Nat.le_of_ble_eq_true rfl⟩) (gPre.V (n := (11, 0, 0)) hK hH (by first | exact ⟨rfl, rfl⟩ | exact ⟨by assumption, rfl⟩ | exact ⟨by assumption, by assumption⟩ | exact ⟨by omega, rfl⟩ | exact ⟨by omega, by omega⟩ | exact ⟨by decide, rfl⟩) rfl rfl) rfl rfl hl.1 rfl (lv_room (Nat.le_of_ble_eq_true rfl)) dL_law_638 ⟨show (66 + 7 * t) + 0 ≤ 600000 by omega, show (641 + 88 * t) + 0 ≤ 7302250 by omega⟩) hS (fun H locs hH hS => ?_)
  refine lv_icmp_eq hx hb dL_law_641 rfl (fun h_1 => ?_) (fun h_1 => ?_)
  · skip
    refine lv_iinc (k := 0) (v := nI (4 * (t + 1))) hx hb dL_law_669 hl rfl (by rw [show 4 * (t + 1) = 4 * t + 4 by omega, ← nI_add]; rfl) (by decide) rfl (fun ls hl => ?_)
    refine lv_goto hx hb dL_law_672 rfl ?_
    refine W.widen (k := (66 + 7 * (t + 1))) (n := (641 + 88 * (t + 1))) (by omega) (by omega) ?_
    exact ih _ _ _ _ _ _ _ ls _ _ hH hR hS hl
  · exact absurd hres h_1
set_option maxHeartbeats 4000000 in
set_option maxRecDepth 100000 in
theorem law_19 {p : Program} {l : Launch} {e : Env} {s : State} {m : MethodId} {below : List Frame} {meth : Method} {cd : Code} {b L : Nat} {xs : Nat → Int32} {D : va_G} {c : Nat → ClassId} {Q : State → Prop} (hx : p.tables.exec = Jvm.exec) (hb : cd.code = code) (hml : cd.maxLocals = 4) (hown : s.vm.findClass RL = some m.cls) (hw : ∀ w ∈ gWd, w.before #[Value.ref b] s = true) (hX : va_X b L xs s s.heap) (hbl : b < s.heap.size) (hK : gK D c s) (hL : L ≤ 2048) {ad : gN → Nat} {k : Nat} {I J : gI} {P : gP} {LG : Option Nat} {LP : Option (Nat × Nat)} {H : Heap} {locs : List Loc} {ls : Array Slot} {t : Nat} (ht : 4 * t + 4 ≤ L) (hH : gW D c s.heap.size ad k I J P LG LP H) (hR : gR k I J P LG LP) (hS : va_S (gA s.heap.size) s.heap H locs) (hl : lv_has ls 4 [(3, .int (nI (4 * t))), (2, .ref (ad (11, 0, 0))), (1, .ref (ad (0, 0, 0))), (0, .ref b)]) (ih : ∀ (ad : gN → Nat) (k : Nat) (I J : gI) (P : gP) (LG : Option Nat) (LP : Option (Nat × Nat)) (ls : Array Slot) (H : Heap) (locs : List Loc), gW D c s.heap.size ad k I J P LG LP H → gR k I J P LG LP → va_S (gA s.heap.size) s.heap H locs → lv_has ls 4 [(3, .int (nI (4 * (t + 1)))), (2, .ref (ad (11, 0, 0))), (1, .ref (ad (0, 0, 0))), (0, .ref b)] → W p l e room_1 s m #[Value.ref b] below meth cd H locs (66 + 7 * (t + 1)) (641 + 88 * (t + 1)) Q (F0 m 18 ls [])) : W p l e room_1 s m #[Value.ref b] below meth cd H locs (66 + 7 * t) (641 + 88 * t) Q (F0 m 646 ls []) := by
  have hbA : ¬ gA s.heap.size b := Nat.not_le.mpr hbl
  have hk := hR.1.hk
  have hmd : J (11, 0, 0) 7 = nI k := hR.1.hmd
  have h01 := hR.1.h01
  have hPl := hR.1.hPl
  have hLG := hR.1.hLG
  have hLP := hR.1.hLP
  have hask := hR.1.hask
  have hpc := hR.1.hpc
  have hld := hR.1.hld
  have hmk : I (0, 0, 0) 3 = nI k := hR.1.hmk
  have hres := sim_tab hR (xs (4 * t + 1))
  refine lv_aload_n hx hb dL_law_646 rfl (lv_at hl 2 rfl) ?_
  refine lv_aload_n hx hb dL_law_647 rfl (lv_at hl 3 rfl) ?_
  refine lv_iload_n hx hb dL_law_648 rfl (lv_at hl 0 rfl) ?_
  refine lv_iconst (v := 1) hx hb dL_law_649 (by decide) ?_
  refine lv_iadd hx hb dL_law_650 ?_
  refine l_sld hx hb hX hbl hbA hS (4 * t + 1) (by first | exact nI_add (4 * t) 1 | rfl) (by omega) dL_law_651 ?_
  refine s_ciE (va_runV (As := [.int _]) (rest := []) ⟨hx, hb, hml, hown, hw⟩ (c_K_tables l  (hPl)) (cwV 1 hw (gd_V (gwd_5 (List.mem_of_getElem? (i := 29) rfl)) (gwd_5 (List.mem_of_getElem? (i := 30) rfl)) (gwd_5 (List.mem_of_getElem? (i := 31) rfl)) (gwd_0 (List.mem_of_getElem? (i := 1) rfl)) (gwd_5 (List.mem_of_getElem? (i := 32) rfl))) rfl rfl rfl (by decide +kernel) ⟨Nat.le_of_ble_eq_true rfl, Nat.le_of_ble_eq_true rfl⟩) (gPre.V (n := (0, 0, 0)) hK hH (by first | exact ⟨rfl, rfl⟩ | exact ⟨by assumption, rfl⟩ | exact ⟨by assumption, by assumption⟩ | exact ⟨by omega, rfl⟩ | exact ⟨by omega, by omega⟩ | exact ⟨by decide, rfl⟩) rfl rfl) rfl rfl hl.1 rfl (lv_room (Nat.le_of_ble_eq_true rfl)) dL_law_652 ⟨show (66 + 7 * t) + 0 ≤ 600000 by omega, show (641 + 88 * t) + 0 ≤ 7302250 by omega⟩) hS (fun H locs hH hS => ?_)
  refine lv_aload_n hx hb dL_law_655 rfl (lv_at hl 1 rfl) ?_
  refine lv_aload_n hx hb dL_law_656 rfl (lv_at hl 3 rfl) ?_
  refine lv_iload_n hx hb dL_law_657 rfl (lv_at hl 0 rfl) ?_
  refine lv_iconst (v := 1) hx hb dL_law_658 (by decide) ?_
  refine lv_iadd hx hb dL_law_659 ?_
  refine l_sld hx hb hX hbl hbA hS (4 * t + 1) (by first | exact nI_add (4 * t) 1 | rfl) (by omega) dL_law_660 ?_
  refine s_ciE (va_runV (As := [.int _]) (rest := [.int _]) ⟨hx, hb, hml, hown, hw⟩ (c_M_tables l  (by assumption) (by assumption)) (cwV 1 hw (gd_V (gwd_9 (List.mem_of_getElem? (i := 8) rfl)) (gwd_9 (List.mem_of_getElem? (i := 9) rfl)) (gwd_9 (List.mem_of_getElem? (i := 10) rfl)) (gwd_0 (List.mem_of_getElem? (i := 3) rfl)) (gwd_9 (List.mem_of_getElem? (i := 11) rfl))) rfl rfl rfl (by decide +kernel) ⟨Nat.le_of_ble_eq_true rfl, Nat.le_of_ble_eq_true rfl⟩) (gPre.V (n := (11, 0, 0)) hK hH (by first | exact ⟨rfl, rfl⟩ | exact ⟨by assumption, rfl⟩ | exact ⟨by assumption, by assumption⟩ | exact ⟨by omega, rfl⟩ | exact ⟨by omega, by omega⟩ | exact ⟨by decide, rfl⟩) rfl rfl) rfl rfl hl.1 rfl (lv_room (Nat.le_of_ble_eq_true rfl)) dL_law_661 ⟨show (66 + 7 * t) + 0 ≤ 600000 by omega, show (641 + 88 * t) + 0 ≤ 7302250 by omega⟩) hS (fun H locs hH hS => ?_)
  refine lv_icmp_eq hx hb dL_law_664 rfl (fun h_1 => ?_) (fun h_1 => ?_)
  · skip
    refine lv_iinc (k := 0) (v := nI (4 * (t + 1))) hx hb dL_law_669 hl rfl (by rw [show 4 * (t + 1) = 4 * t + 4 by omega, ← nI_add]; rfl) (by decide) rfl (fun ls hl => ?_)
    refine lv_goto hx hb dL_law_672 rfl ?_
    refine W.widen (k := (66 + 7 * (t + 1))) (n := (641 + 88 * (t + 1))) (by omega) (by omega) ?_
    exact ih _ _ _ _ _ _ _ ls _ _ hH hR hS hl
  · exact absurd hres h_1
