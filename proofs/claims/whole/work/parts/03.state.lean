/-! the state: all ints by name and slot, the places, what is loaded; the cells that they stand for -/
abbrev gI : Type := gN → Nat → Int32
abbrev gP : Type := Nat → Nat → Option Nat
def iu (I : gI) (n : gN) (f : Nat) (x : Int32) : gI := fun n' => if n' = n then upd (I n') f x else I n'
def pu (P : gP) (g a : Nat) (x : Option Nat) : gP := fun g' => if g' = g then va_up (P g') a x else P g'
theorem iu_s (I : gI) (n : gN) (f : Nat) (x : Int32) : iu I n f x n = upd (I n) f x := by simp [iu]
theorem iu_n (I : gI) {n n' : gN} (f : Nat) (x : Int32) (h : n' ≠ n) : iu I n f x n' = I n' := by simp [iu, h]
theorem pu_s (P : gP) (g a : Nat) (x : Option Nat) : pu P g a x g = va_up (P g) a x := by simp [pu]
theorem pu_n (P : gP) {g g' : Nat} (a : Nat) (x : Option Nat) (h : g' ≠ g) : pu P g a x g' = P g' := by simp [pu, h]
theorem iu_at (I : gI) (n n' : gN) (f f' : Nat) (x : Int32) : iu I n f x n' f' = if n' = n ∧ f' = f then x else I n' f' := by
  by_cases h : n' = n
  · subst h
    simp [iu_s, upd]
  · simp [iu_n _ _ _ h, h]
theorem pu_at (P : gP) (g g' a a' : Nat) (x : Option Nat) : pu P g a x g' a' = if g' = g ∧ a' = a then x else P g' a' := by
  by_cases h : g' = g
  · subst h
    simp [pu_s, va_up]
  · simp [pu_n _ _ _ h, h]
def mlen : Nat → Nat
  | 0 => 96
  | 4 => 24
  | 10 => 56
  | 11 => 14
  | 12 => 14
  | 15 => 4
  | 8 => 7
  | 9 => 7
  | _ => 24
abbrev gRa (f : Nat → Option Nat) : (Nat → Int32) ⊕ (Nat → Int64) ⊕ (Nat → UInt32) ⊕ (Nat → UInt64) ⊕ (Nat → Option Nat) := .inr (.inr (.inr (.inr f)))
/-- what the cell of a name holds: r its own ints -/
def gE (c : Nat → ClassId) (ad : gN → Nat) (k : Nat) (r t : Nat → Int32) (P : gP) (LG : Option Nat) (LP : Option (Nat × Nat)) (n : gN) : va_E := match n with
  | (0, _, _) => .inr (0, [.ref (ad (1, 0, 0)), .ref (ad (4, 0, 0)), .ref (ad (5, 0, 0)), .int (r 3), .int (r 4), .int (r 5), va_rf (LG.map fun g => ad (6, g, 0)), va_rf (LP.map fun q => ad (9, q.1, q.2))])
  | (1, _, _) => .inl (c 2, 24, gRa (fun p => if p < 24 then some (ad (2, p, 0)) else none))
  | (2, p, _) => .inr (1, [.ref (ad (3, p, 0)), .int (r 1), .int (r 2), .int (r 3), .int (r 4), .int (r 5)])
  | (3, _, _) => .inl (c 0, 4, .inl r)
  | (4, _, _) => .inl (c 3, 6, gRa (fun g => if g < k then some (ad (6, g, 0)) else none))
  | (5, _, _) => .inl (c 0, 4, .inl r)
  | (6, g, _) => .inr (2, [.int (r 0), .ref (ad (7, g, 0)), .ref (ad (8, g, 0)), .int (r 3), .int (r 4), .int (r 5)])
  | (7, g, _) => .inl (c 2, 64, gRa (fun a => (P g a).map fun p => ad (2, p, 0)))
  | (8, g, _) => .inl (c 4, 2, gRa (fun v => if v < 2 then some (ad (9, g, v)) else none))
  | (9, g, v) => .inr (3, [.ref (ad (10, g, v)), .int (r 1), .int (r 2), .int (r 3)])
  | (10, _, _) => .inl (c 0, 4, .inl r)
  | (11, _, _) => .inr (4, [.ref (ad (12, 0, 0)), .ref (ad (12, 1, 0)), .ref (ad (12, 2, 0)), .ref (ad (12, 3, 0)), .ref (ad (12, 4, 0)), .ref (ad (13, 5, 0)), .ref (ad (13, 6, 0)), .int (t 7), .ref (ad (13, 8, 0)), .ref (ad (13, 9, 0)), .ref (ad (12, 10, 0)), .ref (ad (12, 11, 0)), .ref (ad (12, 12, 0)), .int (t 13), .int (t 14), .ref (ad (12, 15, 0)), .int (t 16)])
  | (12, f, _) => .inl (c 0, mlen f, .inl t)
  | (13, f, _) => .inl (c 1, mlen f, .inl t)
  | _ => .inr (0, [])
def gV (c : Nat → ClassId) (ad : gN → Nat) (k : Nat) (I J : gI) (P : gP) (LG : Option Nat) (LP : Option (Nat × Nat)) : gN → va_E := fun n => gE c ad k (I n) (J n) P LG LP n
/-- which names there are, with k guests -/
def gD (k : Nat) (n : gN) : Prop := match n with
  | (0, i, j) => i = 0 ∧ j = 0
  | (1, i, j) => i = 0 ∧ j = 0
  | (2, p, j) => p < 24 ∧ j = 0
  | (3, p, j) => p < 24 ∧ j = 0
  | (4, i, j) => i = 0 ∧ j = 0
  | (5, i, j) => i = 0 ∧ j = 0
  | (6, g, j) => g < k ∧ j = 0
  | (7, g, j) => g < k ∧ j = 0
  | (8, g, j) => g < k ∧ j = 0
  | (9, g, v) => g < k ∧ v < 2
  | (10, g, v) => g < k ∧ v < 2
  | (11, i, j) => i = 0 ∧ j = 0
  | (12, f, j) => (f ≤ 4 ∨ f = 10 ∨ f = 11 ∨ f = 12 ∨ f = 15) ∧ j = 0
  | (13, f, j) => (f = 5 ∨ f = 6 ∨ f = 8 ∨ f = 9) ∧ j = 0
  | _ => False
abbrev gA (sz : Nat) : Nat → Prop := fun q => sz ≤ q
abbrev gTy (c : Nat → ClassId) : List (ClassId × FieldType) := [(c 0, .int), (c 1, .boolean), (c 2, .object "GuestKeeper$Page"), (c 3, .object "GuestKeeper$Guest"), (c 4, .object "GuestKeeper$Processor")]
def gW (D : va_G) (c : Nat → ClassId) (sz : Nat) (ad : gN → Nat) (k : Nat) (I J : gI) (P : gP) (LG : Option Nat) (LP : Option (Nat × Nat)) (H : Heap) : Prop := gH D vwCl ad (gD k) (gV c ad k I J P LG LP) (gA sz) H
/-- what the tables say besides: two constructors of nest mates, three classes of arrays -/
def gNw (U : State) : Prop := va_Nw (.methodLinkNest RK 15 yP_init "GuestKeeper") U ∧ va_Nw (.methodLinkNest RG 31 yR_init "GuestKeeper") U ∧ va_AO "GuestKeeper$Page" U ∧ va_AO "GuestKeeper$Guest" U ∧ va_AO "GuestKeeper$Processor" U
def gK (D : va_G) (c : Nat → ClassId) (U : State) : Prop := va_K D vwCl (gTy c) U ∧ gNw U
theorem gK.moved {D : va_G} {c : Nat → ClassId} {s U : State} (hW : s.WarmedH U.vm) (h : gK D c s) : gK D c U := ⟨va_K.moved hW.alike h.1, va_Nw.warmM hW h.2.1, va_Nw.warmM hW h.2.2.1, h.2.2.2.1.moved hW.alike, h.2.2.2.2.1.moved hW.alike, h.2.2.2.2.2.moved hW.alike⟩
theorem gK.calling {D : va_G} {c : Nat → ClassId} {U : State} {g : JFrame} {mk : MethodId} {a : Array Value} (h : gK D c U) : gK D c (U.calling g mk a) := ⟨va_K.moved (u := U) (U := U.calling g mk a) (Vm.Alike.refl U.vm) h.1, va_Nw.same rfl rfl h.2.1, va_Nw.same rfl rfl h.2.2.1, va_AO.moved (u := U) (U := U.calling g mk a) (Vm.Alike.refl U.vm) h.2.2.2.1, va_AO.moved (u := U) (U := U.calling g mk a) (Vm.Alike.refl U.vm) h.2.2.2.2.1, va_AO.moved (u := U) (U := U.calling g mk a) (Vm.Alike.refl U.vm) h.2.2.2.2.2⟩
/-- the state as one thing: addresses, guests, ints, places, loaded guest and processor -/
abbrev gT : Type := (gN → Nat) × Nat × gI × gI × gP × Option Nat × Option (Nat × Nat)
def gB (D : va_G) (c : Nat → ClassId) (sz : Nat) (u : gT) (U : State) : Prop := gK D c U ∧ gW D c sz u.1 u.2.1 u.2.2.1 u.2.2.2.1 u.2.2.2.2.1 u.2.2.2.2.2.1 u.2.2.2.2.2.2 U.heap
abbrev gPre (D : va_G) (c : Nat → ClassId) (sz : Nat) (av : List Value) (u : gT) : Array Value → State → Prop := va_Pc av (gB D c sz u)
theorem gPre.blind {D : va_G} {c : Nat → ClassId} {sz : Nat} {av : List Value} {u : gT} : FrameBlind (gPre D c sz av u) := fun a U g mk h => ⟨h.1, h.2.1.calling, h.2.2⟩
theorem gPre.S {D : va_G} {c : Nat → ClassId} {sz : Nat} {ad : gN → Nat} {k : Nat} {I J : gI} {P : gP} {LG : Option Nat} {LP : Option (Nat × Nat)} {s : State} {H : Heap} {av : List Value} (hK : gK D c s) (hH : gW D c sz ad k I J P LG LP H) : PreS s H (gPre D c sz av (ad, k, I, J, P, LG, LP)) av := ⟨gPre.blind, fun U hU hW => ⟨rfl, hK.moved hW, by rw [hU]; exact hH⟩⟩
theorem gPre.V {D : va_G} {c : Nat → ClassId} {sz : Nat} {ad : gN → Nat} {k : Nat} {I J : gI} {P : gP} {LG : Option Nat} {LP : Option (Nat × Nat)} {s : State} {H : Heap} {As : List Value} {n : gN} {ci : Nat} {q : vw_C} {fs : List Value} (hK : gK D c s) (hH : gW D c sz ad k I J P LG LP H) (hn : gD k n) (he : gV c ad k I J P LG LP n = .inr (ci, fs)) (hc : vwCl[ci]? = some q) : PreV s H q.1 (ad n) (gPre D c sz (.ref (ad n) :: As) (ad, k, I, J, P, LG, LP)) As := ⟨gPre.blind, va_recv hK.1 (gH.one hH hn he) hc (q0 := 0) rfl, fun U hU hW => ⟨rfl, hK.moved hW, by rw [hU]; exact hH⟩⟩
/-- an int of the state changes -/
theorem gW.up {D : va_G} {c : Nat → ClassId} {sz : Nat} {ad : gN → Nat} {k : Nat} {I J : gI} {P : gP} {LG : Option Nat} {LP : Option (Nat × Nat)} {H : Heap} {n : gN} {e : va_E} (f : Nat) (x : Int32) (hH : gH D vwCl ad (gD k) (gu (gV c ad k I J P LG LP) n e) (gA sz) H) (he : gE c ad k (upd (I n) f x) (J n) P LG LP n = e) : gW D c sz ad k (iu I n f x) J P LG LP H := by
  refine gH.congr hH (fun _ => Iff.rfl) (fun _ _ => rfl) (fun n' _ => ?_)
  by_cases h : n' = n
  · subst h
    rw [gu_s, ← he]
    simp only [gV, iu_s]
  · rw [gu_n _ _ h]
    simp only [gV, iu_n _ _ _ h]
theorem gW.upJ {D : va_G} {c : Nat → ClassId} {sz : Nat} {ad : gN → Nat} {k : Nat} {I J : gI} {P : gP} {LG : Option Nat} {LP : Option (Nat × Nat)} {H : Heap} {n : gN} {e : va_E} (f : Nat) (x : Int32) (hH : gH D vwCl ad (gD k) (gu (gV c ad k I J P LG LP) n e) (gA sz) H) (he : gE c ad k (I n) (upd (J n) f x) P LG LP n = e) : gW D c sz ad k I (iu J n f x) P LG LP H := by
  refine gH.congr hH (fun _ => Iff.rfl) (fun _ _ => rfl) (fun n' _ => ?_)
  by_cases h : n' = n
  · subst h
    rw [gu_s, ← he]
    simp only [gV, iu_s]
  · rw [gu_n _ _ h]
    simp only [gV, iu_n _ _ _ h]
/-- a place of a guest changes -/
theorem gW.upP {D : va_G} {c : Nat → ClassId} {sz : Nat} {ad : gN → Nat} {k : Nat} {I J : gI} {P : gP} {LG : Option Nat} {LP : Option (Nat × Nat)} {H : Heap} {g : Nat} (j : Nat) (o : Option Nat) (hH : gH D vwCl ad (gD k) (gu (gV c ad k I J P LG LP) (7, g, 0) (.inl (c 2, 64, gRa (va_up (fun a => (P g a).map fun p => ad (2, p, 0)) j (o.map fun p => ad (2, p, 0)))))) (gA sz) H) : gW D c sz ad k I J (pu P g j o) LG LP H := by
  refine gH.congr hH (fun _ => Iff.rfl) (fun _ _ => rfl) (fun n' hn => ?_)
  by_cases h : n' = (7, g, 0)
  · subst h
    rw [gu_s]
    show (Sum.inl (c 2, 64, gRa (fun a => (pu P g j o g a).map fun p => ad (2, p, 0))) : va_E) = _
    congr 4
    funext a
    rw [pu_s]
    by_cases ha : a = j
    · subst ha; simp [va_up]
    · simp [va_up, ha]
  · rw [gu_n _ _ h]
    obtain ⟨a, b, d⟩ := n'
    by_cases h7 : a = 7
    · subst h7
      have hd : d = 0 := hn.2
      subst hd
      have hb : b ≠ g := fun q => h (by rw [q])
      show (Sum.inl (c 2, 64, gRa (fun a => (pu P g j o b a).map fun p => ad (2, p, 0))) : va_E) = Sum.inl (c 2, 64, gRa (fun a => (P b a).map fun p => ad (2, p, 0)))
      rw [pu_n _ _ _ hb]
    · match a, h7 with
      | 0, _ => rfl
      | 1, _ => rfl
      | 2, _ => rfl
      | 3, _ => rfl
      | 4, _ => rfl
      | 5, _ => rfl
      | 6, _ => rfl
      | 8, _ => rfl
      | 9, _ => rfl
      | 10, _ => rfl
      | 11, _ => rfl
      | 12, _ => rfl
      | 13, _ => rfl
      | a + 14, _ => exact hn.elim
/-- what is loaded changes -/
theorem gW.upL {D : va_G} {c : Nat → ClassId} {sz : Nat} {ad : gN → Nat} {k : Nat} {I J : gI} {P : gP} {LG LG' : Option Nat} {LP LP' : Option (Nat × Nat)} {H : Heap} {e : va_E} (hH : gH D vwCl ad (gD k) (gu (gV c ad k I J P LG LP) (0, 0, 0) e) (gA sz) H) (he : gE c ad k (I (0, 0, 0)) (J (0, 0, 0)) P LG' LP' (0, 0, 0) = e) : gW D c sz ad k I J P LG' LP' H := by
  refine gH.congr hH (fun _ => Iff.rfl) (fun _ _ => rfl) (fun n' hn => ?_)
  by_cases h : n' = (0, 0, 0)
  · subst h
    rw [gu_s, ← he]
    rfl
  · rw [gu_n _ _ h]
    obtain ⟨a, b, d⟩ := n'
    match a with
      | 0 => exact absurd (by rw [hn.1, hn.2]) h
      | 1 => rfl
      | 2 => rfl
      | 3 => rfl
      | 4 => rfl
      | 5 => rfl
      | 6 => rfl
      | 7 => rfl
      | 8 => rfl
      | 9 => rfl
      | 10 => rfl
      | 11 => rfl
      | 12 => rfl
      | 13 => rfl
      | a + 14 => exact hn.elim
def bz (c : Prop) [Decidable c] : Int32 := if c then 1 else 0
theorem bz_t {c : Prop} [Decidable c] (h : c) : bz c = 1 := if_pos h
theorem bz_f {c : Prop} [Decidable c] (h : ¬ c) : bz c = 0 := if_neg h
theorem bz_01 (c : Prop) [Decidable c] : bz c = 0 ∨ bz c = 1 := by
  by_cases h : c
  · exact Or.inr (bz_t h)
  · exact Or.inl (bz_f h)
theorem bz_0 {c : Prop} [Decidable c] : bz c = 0 ↔ ¬ c := by
  by_cases h : c
  · simp [bz, h]
  · simp [bz, h]
theorem bz_1 {c : Prop} [Decidable c] : bz c = 1 ↔ c := by
  by_cases h : c
  · simp [bz, h]
  · simp [bz, h]
theorem nar01 {x : Int32} (h : x = 0 ∨ x = 1) : narrow .boolean (.int x) = .int x := by rcases h with rfl | rfl <;> rfl
theorem fit01 {x : Int32} (h : x = 0 ∨ x = 1) : fits .boolean (.int x) = true := by rcases h with rfl | rfl <;> rfl
section GS
variable {p : Program} {l : Launch} {e : Env} {R : Room} {s : State} {m : MethodId} {args : Array Value} {below : List Frame} {meth : Method} {cd : Code} {H : Heap} {locs : List Loc} {cells slots : Nat} {Q : State → Prop}
variable {cc : ByteArray} {pc : Nat} {ls : Array Slot} {rest st0 : List Value} {D : va_G} {c : Nat → ClassId} {sz : Nat} {H0 : Heap} {ad : gN → Nat} {k : Nat} {I J : gI} {P : gP} {LG : Option Nat} {LP : Option (Nat × Nat)} {n : gN} {mc ms : Nat} {av : Array Value}
theorem s_get (hx : p.tables.exec = Jvm.exec) (hb : cd.code = cc) {own ref C : String} {T : u_T} {N ci index : Nat} {Ts : List Cond} (hts : ∀ w ∈ Ts, w.before args s = true) (hin : ∀ w ∈ u_ws C T N, w ∈ Ts) (hown : s.vm.findClass own = some m.cls) (hK : gK D c s) (hH : gW D c sz ad k I J P LG LP H) (f : Nat) (hf : f < N) (hlink : (Cond.fieldLink own index ref (T f).2.1 (T f).2.2.1).before args s = true) (hn : gD k n) {fs : List Value} (he : gV c ad k I J P LG LP n = .inr (ci, fs)) (hc : vwCl[ci]? = some (C, T, N)) (href : (T f).1 = ref) {v : Value} (hv : fs[f]? = some v) (hdg : decode cc pc = .ok (.getfield index, 3))
    (kk : W p l e R s m args below meth cd H locs cells slots Q (F0 m (pc + 3) ls (v :: rest))) : W p l e R s m args below meth cd H locs cells slots Q (F0 m pc ls (.ref (ad n) :: rest)) :=
  gx_get hx hb hts hin hown hK.1 hH hn he hc f hf hlink (fun x h => by rw [← href]; exact h) hv hdg kk
/-- an int field -/
theorem s_put (hx : p.tables.exec = Jvm.exec) (hb : cd.code = cc) {own ref C : String} {T : u_T} {N ci index : Nat} {Ts : List Cond} (hts : ∀ w ∈ Ts, w.before args s = true) (hin : ∀ w ∈ u_ws C T N, w ∈ Ts) {ty0 : Nat → FieldType} (hty : ∀ k, k < N → parseFieldDescriptor (T k).2.2.1 = some (ty0 k)) (hnm : ∀ a, a < N → ∀ b, b < N → a ≠ b → (T a).2.1 ≠ (T b).2.1) (hown : s.vm.findClass own = some m.cls) (hK : gK D c s) (hH : gW D c sz ad k I J P LG LP H) (hS : va_S (gA sz) H0 H locs) (f : Nat) (hf : f < N) (hlink : (Cond.fieldLink own index ref (T f).2.1 (T f).2.2.1).before args s = true) (hn : gD k n) {fs : List Value} (he : gV c ad k I J P LG LP n = .inr (ci, fs)) (hc : vwCl[ci]? = some (C, T, N)) (href : (T f).1 = ref) (hfin : (T f).2.2.2 = false) {ty : FieldType} {x : Int32} (hd : ty0 f = ty) (hnr : narrow ty (.int x) = .int x) (hfit : fits ty (.int x) = true) (hl : f < fs.length) (hset : gE c ad k (upd (I n) f x) (J n) P LG LP n = .inr (ci, fs.set f (.int x))) (hdg : decode cc pc = .ok (.putfield index, 3))
    (kk : ∀ (H1 : Heap) (locs1 : List Loc), gW D c sz ad k (iu I n f x) J P LG LP H1 → va_S (gA sz) H0 H1 locs1 → W p l e R s m args below meth cd H1 locs1 cells slots Q (F0 m (pc + 3) ls rest)) : W p l e R s m args below meth cd H locs cells slots Q (F0 m pc ls (.int x :: .ref (ad n) :: rest)) :=
  gx_put hx hb hts hin ty0 hty hnm hown hK.1 hH hS hn he hc f hf hlink (fun x h => by rw [← href]; exact h) hfin (by rw [← hd]; exact hty f hf) hnr hfit hl hdg (fun H1 locs1 h1 h2 => kk H1 locs1 (gW.up f x h1 hset) h2)
theorem m_put (hx : p.tables.exec = Jvm.exec) (hb : cd.code = cc) {own ref C : String} {T : u_T} {N ci index : Nat} {Ts : List Cond} (hts : ∀ w ∈ Ts, w.before args s = true) (hin : ∀ w ∈ u_ws C T N, w ∈ Ts) {ty0 : Nat → FieldType} (hty : ∀ k, k < N → parseFieldDescriptor (T k).2.2.1 = some (ty0 k)) (hnm : ∀ a, a < N → ∀ b, b < N → a ≠ b → (T a).2.1 ≠ (T b).2.1) (hown : s.vm.findClass own = some m.cls) (hK : gK D c s) (hH : gW D c sz ad k I J P LG LP H) (hS : va_S (gA sz) H0 H locs) (f : Nat) (hf : f < N) (hlink : (Cond.fieldLink own index ref (T f).2.1 (T f).2.2.1).before args s = true) (hn : gD k n) {fs : List Value} (he : gV c ad k I J P LG LP n = .inr (ci, fs)) (hc : vwCl[ci]? = some (C, T, N)) (href : (T f).1 = ref) (hfin : (T f).2.2.2 = false) {ty : FieldType} {x : Int32} (hd : ty0 f = ty) (hnr : narrow ty (.int x) = .int x) (hfit : fits ty (.int x) = true) (hl : f < fs.length) (hset : gE c ad k (I n) (upd (J n) f x) P LG LP n = .inr (ci, fs.set f (.int x))) (hdg : decode cc pc = .ok (.putfield index, 3))
    (kk : ∀ (H1 : Heap) (locs1 : List Loc), gW D c sz ad k I (iu J n f x) P LG LP H1 → va_S (gA sz) H0 H1 locs1 → W p l e R s m args below meth cd H1 locs1 cells slots Q (F0 m (pc + 3) ls rest)) : W p l e R s m args below meth cd H locs cells slots Q (F0 m pc ls (.int x :: .ref (ad n) :: rest)) :=
  gx_put hx hb hts hin ty0 hty hnm hown hK.1 hH hS hn he hc f hf hlink (fun x h => by rw [← href]; exact h) hfin (by rw [← hd]; exact hty f hf) hnr hfit hl hdg (fun H1 locs1 h1 h2 => kk H1 locs1 (gW.upJ f x h1 hset) h2)
/-- loadedGuest, loadedProcessor -/
theorem s_putL (hx : p.tables.exec = Jvm.exec) (hb : cd.code = cc) {own ref C : String} {T : u_T} {N ci index : Nat} {Ts : List Cond} (hts : ∀ w ∈ Ts, w.before args s = true) (hin : ∀ w ∈ u_ws C T N, w ∈ Ts) {ty0 : Nat → FieldType} (hty : ∀ k, k < N → parseFieldDescriptor (T k).2.2.1 = some (ty0 k)) (hnm : ∀ a, a < N → ∀ b, b < N → a ≠ b → (T a).2.1 ≠ (T b).2.1) (hown : s.vm.findClass own = some m.cls) (hK : gK D c s) (hH : gW D c sz ad k I J P LG LP H) (hS : va_S (gA sz) H0 H locs) (f : Nat) (hf : f < N) (hlink : (Cond.fieldLink own index ref (T f).2.1 (T f).2.2.1).before args s = true) {fs : List Value} (he : gV c ad k I J P LG LP (0, 0, 0) = .inr (ci, fs)) (hc : vwCl[ci]? = some (C, T, N)) (href : (T f).1 = ref) (hfin : (T f).2.2.2 = false) {ty : FieldType} {v : Value} (hd : ty0 f = ty) (hnr : narrow ty v = v) (hfit : fits ty v = true) (hl : f < fs.length) (LG' : Option Nat) (LP' : Option (Nat × Nat)) (hset : gE c ad k (I (0, 0, 0)) (J (0, 0, 0)) P LG' LP' (0, 0, 0) = .inr (ci, fs.set f v)) (hdg : decode cc pc = .ok (.putfield index, 3))
    (kk : ∀ (H1 : Heap) (locs1 : List Loc), gW D c sz ad k I J P LG' LP' H1 → va_S (gA sz) H0 H1 locs1 → W p l e R s m args below meth cd H1 locs1 cells slots Q (F0 m (pc + 3) ls rest)) : W p l e R s m args below meth cd H locs cells slots Q (F0 m pc ls (v :: .ref (ad (0, 0, 0)) :: rest)) :=
  gx_put hx hb hts hin ty0 hty hnm hown hK.1 hH hS (n := (0, 0, 0)) ⟨rfl, rfl⟩ he hc f hf hlink (fun x h => by rw [← href]; exact h) hfin (by rw [← hd]; exact hty f hf) hnr hfit hl hdg (fun H1 locs1 h1 h2 => kk H1 locs1 (gW.upL h1 hset) h2)
/-- an element of an int array -/
theorem s_iald (hx : p.tables.exec = Jvm.exec) (hb : cd.code = cc) (hK : gK D c s) (hH : gW D c sz ad k I J P LG LP H) (hn : gD k n) {N : Nat} (he : gV c ad k I J P LG LP n = .inl (c 0, N, .inl (I n))) {i : Int32} (j : Nat) (hi : i = nI j) (hj : j < N) (hN : N < 2 ^ 31) (hdg : decode cc pc = .ok (.iaload, 1))
    (kk : W p l e R s m args below meth cd H locs cells slots Q (F0 m (pc + 1) ls (.int (I n j) :: rest))) : W p l e R s m args below meth cd H locs cells slots Q (F0 m pc ls (.int i :: .ref (ad n) :: rest)) :=
  gx_iald hx hb hK.1 hH 0 hn he rfl j hi hj hN hdg kk
theorem m_iald (hx : p.tables.exec = Jvm.exec) (hb : cd.code = cc) (hK : gK D c s) (hH : gW D c sz ad k I J P LG LP H) (hn : gD k n) {N : Nat} (he : gV c ad k I J P LG LP n = .inl (c 0, N, .inl (J n))) {i : Int32} (j : Nat) (hi : i = nI j) (hj : j < N) (hN : N < 2 ^ 31) (hdg : decode cc pc = .ok (.iaload, 1))
    (kk : W p l e R s m args below meth cd H locs cells slots Q (F0 m (pc + 1) ls (.int (J n j) :: rest))) : W p l e R s m args below meth cd H locs cells slots Q (F0 m pc ls (.int i :: .ref (ad n) :: rest)) :=
  gx_iald hx hb hK.1 hH 0 hn he rfl j hi hj hN hdg kk
theorem m_zald (hx : p.tables.exec = Jvm.exec) (hb : cd.code = cc) (hK : gK D c s) (hH : gW D c sz ad k I J P LG LP H) (hn : gD k n) {N : Nat} (he : gV c ad k I J P LG LP n = .inl (c 1, N, .inl (J n))) {i : Int32} (j : Nat) (hi : i = nI j) (hj : j < N) (hN : N < 2 ^ 31) (hdg : decode cc pc = .ok (.baload, 1))
    (kk : W p l e R s m args below meth cd H locs cells slots Q (F0 m (pc + 1) ls (.int (J n j) :: rest))) : W p l e R s m args below meth cd H locs cells slots Q (F0 m pc ls (.int i :: .ref (ad n) :: rest)) :=
  gx_zald hx hb hK.1 hH 1 hn he rfl j hi hj hN hdg kk
theorem s_iast (hx : p.tables.exec = Jvm.exec) (hb : cd.code = cc) (hK : gK D c s) (hH : gW D c sz ad k I J P LG LP H) (hS : va_S (gA sz) H0 H locs) (hn : gD k n) {N : Nat} (he : gV c ad k I J P LG LP n = .inl (c 0, N, .inl (I n))) {i x : Int32} (j : Nat) (hi : i = nI j) (hj : j < N) (hN : N < 2 ^ 31) (hset : gE c ad k (upd (I n) j x) (J n) P LG LP n = .inl (c 0, N, .inl (upd (I n) j x))) (hdg : decode cc pc = .ok (.iastore, 1))
    (kk : ∀ (H1 : Heap) (locs1 : List Loc), gW D c sz ad k (iu I n j x) J P LG LP H1 → va_S (gA sz) H0 H1 locs1 → W p l e R s m args below meth cd H1 locs1 cells slots Q (F0 m (pc + 1) ls rest)) : W p l e R s m args below meth cd H locs cells slots Q (F0 m pc ls (.int x :: .int i :: .ref (ad n) :: rest)) :=
  gx_iast hx hb hK.1 hH hS 0 hn he rfl j hi hj hN hdg (fun H1 locs1 h1 h2 => kk H1 locs1 (gW.up j x h1 hset) h2)
theorem m_iast (hx : p.tables.exec = Jvm.exec) (hb : cd.code = cc) (hK : gK D c s) (hH : gW D c sz ad k I J P LG LP H) (hS : va_S (gA sz) H0 H locs) (hn : gD k n) {N : Nat} (he : gV c ad k I J P LG LP n = .inl (c 0, N, .inl (J n))) {i x : Int32} (j : Nat) (hi : i = nI j) (hj : j < N) (hN : N < 2 ^ 31) (hset : gE c ad k (I n) (upd (J n) j x) P LG LP n = .inl (c 0, N, .inl (upd (J n) j x))) (hdg : decode cc pc = .ok (.iastore, 1))
    (kk : ∀ (H1 : Heap) (locs1 : List Loc), gW D c sz ad k I (iu J n j x) P LG LP H1 → va_S (gA sz) H0 H1 locs1 → W p l e R s m args below meth cd H1 locs1 cells slots Q (F0 m (pc + 1) ls rest)) : W p l e R s m args below meth cd H locs cells slots Q (F0 m pc ls (.int x :: .int i :: .ref (ad n) :: rest)) :=
  gx_iast hx hb hK.1 hH hS 0 hn he rfl j hi hj hN hdg (fun H1 locs1 h1 h2 => kk H1 locs1 (gW.upJ j x h1 hset) h2)
theorem m_zast (hx : p.tables.exec = Jvm.exec) (hb : cd.code = cc) (hK : gK D c s) (hH : gW D c sz ad k I J P LG LP H) (hS : va_S (gA sz) H0 H locs) (hn : gD k n) {N : Nat} (he : gV c ad k I J P LG LP n = .inl (c 1, N, .inl (J n))) {i x : Int32} (j : Nat) (hi : i = nI j) (hj : j < N) (hN : N < 2 ^ 31) (h01 : x = 0 ∨ x = 1) (hset : gE c ad k (I n) (upd (J n) j x) P LG LP n = .inl (c 1, N, .inl (upd (J n) j x))) (hdg : decode cc pc = .ok (.bastore, 1))
    (kk : ∀ (H1 : Heap) (locs1 : List Loc), gW D c sz ad k I (iu J n j x) P LG LP H1 → va_S (gA sz) H0 H1 locs1 → W p l e R s m args below meth cd H1 locs1 cells slots Q (F0 m (pc + 1) ls rest)) : W p l e R s m args below meth cd H locs cells slots Q (F0 m pc ls (.int x :: .int i :: .ref (ad n) :: rest)) :=
  gx_zast hx hb hK.1 hH hS 1 hn he rfl j hi hj hN h01 hdg (fun H1 locs1 h1 h2 => kk H1 locs1 (gW.upJ j x h1 hset) h2)
/-- pages[j] -/
theorem s_aaP (hx : p.tables.exec = Jvm.exec) (hb : cd.code = cc) (hK : gK D c s) (hH : gW D c sz ad k I J P LG LP H) {i : Int32} (j : Nat) (hi : i = nI j) (hj : j < 24) (hdg : decode cc pc = .ok (.aaload, 1))
    (kk : W p l e R s m args below meth cd H locs cells slots Q (F0 m (pc + 1) ls (.ref (ad (2, j, 0)) :: rest))) : W p l e R s m args below meth cd H locs cells slots Q (F0 m pc ls (.int i :: .ref (ad (1, 0, 0)) :: rest)) := by
  refine gx_aald hx hb hK.1 hH 2 (n := (1, 0, 0)) ⟨rfl, rfl⟩ rfl rfl j hi hj (by decide) hdg ?_
  simp only [hj, if_true]
  exact kk
/-- guests[j] -/
theorem s_aaG (hx : p.tables.exec = Jvm.exec) (hb : cd.code = cc) (hK : gK D c s) (hH : gW D c sz ad k I J P LG LP H) {i : Int32} (j : Nat) (hi : i = nI j) (hj : j < 6) (hdg : decode cc pc = .ok (.aaload, 1))
    (k1 : j < k → W p l e R s m args below meth cd H locs cells slots Q (F0 m (pc + 1) ls (.ref (ad (6, j, 0)) :: rest))) (k0 : ¬ j < k → W p l e R s m args below meth cd H locs cells slots Q (F0 m (pc + 1) ls (.null :: rest))) : W p l e R s m args below meth cd H locs cells slots Q (F0 m pc ls (.int i :: .ref (ad (4, 0, 0)) :: rest)) := by
  refine gx_aald hx hb hK.1 hH 3 (n := (4, 0, 0)) ⟨rfl, rfl⟩ rfl rfl j hi hj (by decide) hdg ?_
  by_cases h : j < k
  · simp only [h, if_true]; exact k1 h
  · simp only [h, if_false]; exact k0 h
/-- places[j] -/
theorem s_aaL (hx : p.tables.exec = Jvm.exec) (hb : cd.code = cc) (hK : gK D c s) (hH : gW D c sz ad k I J P LG LP H) {g : Nat} (hg : g < k) {i : Int32} (j : Nat) (hi : i = nI j) (hj : j < 64) (hdg : decode cc pc = .ok (.aaload, 1))
    (k1 : ∀ q, P g j = some q → W p l e R s m args below meth cd H locs cells slots Q (F0 m (pc + 1) ls (.ref (ad (2, q, 0)) :: rest))) (k0 : P g j = none → W p l e R s m args below meth cd H locs cells slots Q (F0 m (pc + 1) ls (.null :: rest))) : W p l e R s m args below meth cd H locs cells slots Q (F0 m pc ls (.int i :: .ref (ad (7, g, 0)) :: rest)) := by
  refine gx_aald hx hb hK.1 hH 2 (n := (7, g, 0)) ⟨hg, rfl⟩ rfl rfl j hi hj (by decide) hdg ?_
  cases h : P g j with
  | none => exact k0 h
  | some q => exact k1 q h
/-- processors[j] -/
theorem s_aaR (hx : p.tables.exec = Jvm.exec) (hb : cd.code = cc) (hK : gK D c s) (hH : gW D c sz ad k I J P LG LP H) {g : Nat} (hg : g < k) {i : Int32} (j : Nat) (hi : i = nI j) (hj : j < 2) (hdg : decode cc pc = .ok (.aaload, 1))
    (kk : W p l e R s m args below meth cd H locs cells slots Q (F0 m (pc + 1) ls (.ref (ad (9, g, j)) :: rest))) : W p l e R s m args below meth cd H locs cells slots Q (F0 m pc ls (.int i :: .ref (ad (8, g, 0)) :: rest)) := by
  refine gx_aald hx hb hK.1 hH 4 (n := (8, g, 0)) ⟨hg, rfl⟩ rfl rfl j hi hj (by decide) hdg ?_
  simp only [hj, if_true]
  exact kk
/-- places[j] = a page, or null -/
theorem s_asL (hx : p.tables.exec = Jvm.exec) (hb : cd.code = cc) (hK : gK D c s) (hH : gW D c sz ad k I J P LG LP H) (hS : va_S (gA sz) H0 H locs) {g q : Nat} (hg : g < k) (hq : q < 24) {i : Int32} (j : Nat) (hi : i = nI j) (hj : j < 64) (hdg : decode cc pc = .ok (.aastore, 1))
    (kk : ∀ (H1 : Heap) (locs1 : List Loc), gW D c sz ad k I J (pu P g j (some q)) LG LP H1 → va_S (gA sz) H0 H1 locs1 → W p l e R s m args below meth cd H1 locs1 cells slots Q (F0 m (pc + 1) ls rest)) : W p l e R s m args below meth cd H locs cells slots Q (F0 m pc ls (.ref (ad (2, q, 0)) :: .int i :: .ref (ad (7, g, 0)) :: rest)) :=
  gx_aast hx hb hK.1 hH hS 2 1 (n := (7, g, 0)) (n' := (2, q, 0)) ⟨hg, rfl⟩ rfl rfl ⟨hq, rfl⟩ rfl rfl j hi hj (by decide) hdg (fun H1 locs1 h1 h2 => kk H1 locs1 (gW.upP j (some q) h1) h2)
theorem s_asN (hx : p.tables.exec = Jvm.exec) (hb : cd.code = cc) (hK : gK D c s) (hH : gW D c sz ad k I J P LG LP H) (hS : va_S (gA sz) H0 H locs) {g : Nat} (hg : g < k) {i : Int32} (j : Nat) (hi : i = nI j) (hj : j < 64) (hdg : decode cc pc = .ok (.aastore, 1))
    (kk : ∀ (H1 : Heap) (locs1 : List Loc), gW D c sz ad k I J (pu P g j none) LG LP H1 → va_S (gA sz) H0 H1 locs1 → W p l e R s m args below meth cd H1 locs1 cells slots Q (F0 m (pc + 1) ls rest)) : W p l e R s m args below meth cd H locs cells slots Q (F0 m pc ls (.null :: .int i :: .ref (ad (7, g, 0)) :: rest)) :=
  gx_aastN hx hb hK.1 hH hS 2 (n := (7, g, 0)) ⟨hg, rfl⟩ rfl rfl j hi hj (by decide) hdg (fun H1 locs1 h1 h2 => kk H1 locs1 (gW.upP j none h1) h2)
/-- behind a call -/
theorem s_ci {post : Int32 → gT → Prop} (hr : va_Run p l e R s m args below meth cd H locs cells slots mc ms (F0 m pc ls st0) rest (va_Qi post (gB D c sz) (gA sz) av) (gA sz)) (hS : va_S (gA sz) H0 H locs)
    (kk : ∀ (r : Int32) (u : gT) (H1 : Heap) (locs1 : List Loc), post r u → gW D c sz u.1 u.2.1 u.2.2.1 u.2.2.2.1 u.2.2.2.2.1 u.2.2.2.2.2.1 u.2.2.2.2.2.2 H1 → va_S (gA sz) H0 H1 locs1 → W p l e R s m args below meth cd H1 locs1 (cells + mc) (slots + ms) Q (F0 m (pc + 3) ls (.int r :: rest))) : W p l e R s m args below meth cd H locs cells slots Q (F0 m pc ls st0) :=
  va_calli hr hS (fun _ _ h => h) (fun _ h => h) (fun r u t H1 locs1 ht _ hp hB _ _ hS1 => kk r u H1 locs1 hp (by rw [← ht]; exact hB.2) hS1)
theorem s_cl {post : Int64 → gT → Prop} (hr : va_Run p l e R s m args below meth cd H locs cells slots mc ms (F0 m pc ls st0) rest (va_Ql post (gB D c sz) (gA sz) av) (gA sz)) (hS : va_S (gA sz) H0 H locs)
    (kk : ∀ (r : Int64) (u : gT) (H1 : Heap) (locs1 : List Loc), post r u → gW D c sz u.1 u.2.1 u.2.2.1 u.2.2.2.1 u.2.2.2.2.1 u.2.2.2.2.2.1 u.2.2.2.2.2.2 H1 → va_S (gA sz) H0 H1 locs1 → W p l e R s m args below meth cd H1 locs1 (cells + mc) (slots + ms) Q (F0 m (pc + 3) ls (.long r :: rest))) : W p l e R s m args below meth cd H locs cells slots Q (F0 m pc ls st0) :=
  va_calll hr hS (fun _ _ h => h) (fun _ h => h) (fun r u t H1 locs1 ht _ hp hB _ _ hS1 => kk r u H1 locs1 hp (by rw [← ht]; exact hB.2) hS1)
theorem s_cv {post : gT → Prop} (hr : va_Run p l e R s m args below meth cd H locs cells slots mc ms (F0 m pc ls st0) rest (va_Qv post (gB D c sz) (gA sz) av) (gA sz)) (hS : va_S (gA sz) H0 H locs)
    (kk : ∀ (u : gT) (H1 : Heap) (locs1 : List Loc), post u → gW D c sz u.1 u.2.1 u.2.2.1 u.2.2.2.1 u.2.2.2.2.1 u.2.2.2.2.2.1 u.2.2.2.2.2.2 H1 → va_S (gA sz) H0 H1 locs1 → W p l e R s m args below meth cd H1 locs1 (cells + mc) (slots + ms) Q (F0 m (pc + 3) ls rest)) : W p l e R s m args below meth cd H locs cells slots Q (F0 m pc ls st0) :=
  va_callv hr hS (fun _ _ h => h) (fun _ h => h) (fun u t H1 locs1 ht _ hp hB _ _ hS1 => kk u H1 locs1 hp (by rw [← ht]; exact hB.2) hS1)
theorem s_cq {post : Option Nat → gT → Prop} (hr : va_Run p l e R s m args below meth cd H locs cells slots mc ms (F0 m pc ls st0) rest (va_Qq post (gB D c sz) (gA sz) av) (gA sz)) (hS : va_S (gA sz) H0 H locs)
    (kk : ∀ (r : Option Nat) (u : gT) (H1 : Heap) (locs1 : List Loc), post r u → gW D c sz u.1 u.2.1 u.2.2.1 u.2.2.2.1 u.2.2.2.2.1 u.2.2.2.2.2.1 u.2.2.2.2.2.2 H1 → va_S (gA sz) H0 H1 locs1 → W p l e R s m args below meth cd H1 locs1 (cells + mc) (slots + ms) Q (F0 m (pc + 3) ls (va_rf r :: rest))) : W p l e R s m args below meth cd H locs cells slots Q (F0 m pc ls st0) :=
  va_callq hr hS (fun _ _ h => h) (fun _ h => h) (fun r u t H1 locs1 ht _ hp hB _ _ hS1 => kk r u H1 locs1 hp (by rw [← ht]; exact hB.2) hS1)
/-- behind a call whose end is known -/
theorem s_ciE {r0 : Int32} {ad' : gN → Nat} {k' : Nat} {I' J' : gI} {P' : gP} {LG' : Option Nat} {LP' : Option (Nat × Nat)} (hr : va_Run p l e R s m args below meth cd H locs cells slots mc ms (F0 m pc ls st0) rest (va_Qi (fun r u => r = r0 ∧ u = (ad', k', I', J', P', LG', LP')) (gB D c sz) (gA sz) av) (gA sz)) (hS : va_S (gA sz) H0 H locs)
    (kk : ∀ (H1 : Heap) (locs1 : List Loc), gW D c sz ad' k' I' J' P' LG' LP' H1 → va_S (gA sz) H0 H1 locs1 → W p l e R s m args below meth cd H1 locs1 (cells + mc) (slots + ms) Q (F0 m (pc + 3) ls (.int r0 :: rest))) : W p l e R s m args below meth cd H locs cells slots Q (F0 m pc ls st0) :=
  s_ci hr hS (fun r u H1 locs1 hp hH hS1 => by obtain ⟨rfl, rfl⟩ := hp; exact kk H1 locs1 hH hS1)
theorem s_clE {r0 : Int64} {ad' : gN → Nat} {k' : Nat} {I' J' : gI} {P' : gP} {LG' : Option Nat} {LP' : Option (Nat × Nat)} (hr : va_Run p l e R s m args below meth cd H locs cells slots mc ms (F0 m pc ls st0) rest (va_Ql (fun r u => r = r0 ∧ u = (ad', k', I', J', P', LG', LP')) (gB D c sz) (gA sz) av) (gA sz)) (hS : va_S (gA sz) H0 H locs)
    (kk : ∀ (H1 : Heap) (locs1 : List Loc), gW D c sz ad' k' I' J' P' LG' LP' H1 → va_S (gA sz) H0 H1 locs1 → W p l e R s m args below meth cd H1 locs1 (cells + mc) (slots + ms) Q (F0 m (pc + 3) ls (.long r0 :: rest))) : W p l e R s m args below meth cd H locs cells slots Q (F0 m pc ls st0) :=
  s_cl hr hS (fun r u H1 locs1 hp hH hS1 => by obtain ⟨rfl, rfl⟩ := hp; exact kk H1 locs1 hH hS1)
theorem s_cvE {ad' : gN → Nat} {k' : Nat} {I' J' : gI} {P' : gP} {LG' : Option Nat} {LP' : Option (Nat × Nat)} (hr : va_Run p l e R s m args below meth cd H locs cells slots mc ms (F0 m pc ls st0) rest (va_Qv (fun u => u = (ad', k', I', J', P', LG', LP')) (gB D c sz) (gA sz) av) (gA sz)) (hS : va_S (gA sz) H0 H locs)
    (kk : ∀ (H1 : Heap) (locs1 : List Loc), gW D c sz ad' k' I' J' P' LG' LP' H1 → va_S (gA sz) H0 H1 locs1 → W p l e R s m args below meth cd H1 locs1 (cells + mc) (slots + ms) Q (F0 m (pc + 3) ls rest)) : W p l e R s m args below meth cd H locs cells slots Q (F0 m pc ls st0) :=
  s_cv hr hS (fun u H1 locs1 hp hH hS1 => by subst hp; exact kk H1 locs1 hH hS1)
theorem s_cqE {o : Option Nat} {f : Nat → Nat} {ad' : gN → Nat} {k' : Nat} {I' J' : gI} {P' : gP} {LG' : Option Nat} {LP' : Option (Nat × Nat)} (hr : va_Run p l e R s m args below meth cd H locs cells slots mc ms (F0 m pc ls st0) rest (va_Qq (fun r u => r = o.map f ∧ u = (ad', k', I', J', P', LG', LP')) (gB D c sz) (gA sz) av) (gA sz)) (hS : va_S (gA sz) H0 H locs)
    (k0 : ∀ (H1 : Heap) (locs1 : List Loc), o = none → gW D c sz ad' k' I' J' P' LG' LP' H1 → va_S (gA sz) H0 H1 locs1 → W p l e R s m args below meth cd H1 locs1 (cells + mc) (slots + ms) Q (F0 m (pc + 3) ls (.null :: rest)))
    (k1 : ∀ (H1 : Heap) (locs1 : List Loc) (g : Nat), o = some g → gW D c sz ad' k' I' J' P' LG' LP' H1 → va_S (gA sz) H0 H1 locs1 → W p l e R s m args below meth cd H1 locs1 (cells + mc) (slots + ms) Q (F0 m (pc + 3) ls (.ref (f g) :: rest))) : W p l e R s m args below meth cd H locs cells slots Q (F0 m pc ls st0) :=
  s_cq hr hS (fun r u H1 locs1 hp hH hS1 => by
    obtain ⟨rfl, rfl⟩ := hp
    cases o with
    | none => exact k0 H1 locs1 rfl hH hS1
    | some g => exact k1 H1 locs1 g rfl hH hS1)
/-- a boolean on the stack is asked -/
theorem s_ifeq {q : Prop} [Decidable q] (hx : p.tables.exec = Jvm.exec) (hb : cd.code = cc) {off : Int} {tgt : Nat} (hdg : decode cc pc = .ok (.ifCond .eq off, 3)) (ht : (pc : Int) + off = (tgt : Int)) (kt : ¬ q → W p l e R s m args below meth cd H locs cells slots Q (F0 m tgt ls rest)) (kf : q → W p l e R s m args below meth cd H locs cells slots Q (F0 m (pc + 3) ls rest)) : W p l e R s m args below meth cd H locs cells slots Q (F0 m pc ls (.int (bz q) :: rest)) :=
  lv_if_eq hx hb hdg ht (fun h => kt (bz_0.mp h)) (fun h => kf (by by_cases z : q; exact z; exact absurd (bz_0.mpr z) h))
theorem s_ifne {q : Prop} [Decidable q] (hx : p.tables.exec = Jvm.exec) (hb : cd.code = cc) {off : Int} {tgt : Nat} (hdg : decode cc pc = .ok (.ifCond .ne off, 3)) (ht : (pc : Int) + off = (tgt : Int)) (kt : q → W p l e R s m args below meth cd H locs cells slots Q (F0 m tgt ls rest)) (kf : ¬ q → W p l e R s m args below meth cd H locs cells slots Q (F0 m (pc + 3) ls rest)) : W p l e R s m args below meth cd H locs cells slots Q (F0 m pc ls (.int (bz q) :: rest)) :=
  lv_if_ne hx hb hdg ht (fun h => kt (by by_cases z : q; exact z; exact absurd (bz_0.mpr z) h)) (fun h => kf (by by_cases z : q; exact absurd (bz_0.mp (by simpa using h)) (by simpa using z); exact z))
end GS
section GR
variable {p : Program} {l : Launch} {e : Env} {R : Room} {s : State} {m : MethodId} {args : Array Value} {below : List Frame} {meth : Method} {cd : Code} {H : Heap} {locs : List Loc} {cells slots : Nat}
variable {cc : ByteArray} {pc : Nat} {ls : Array Slot} {D : va_G} {c : Nat → ClassId} {sz : Nat} {ad : gN → Nat} {k : Nat} {I J : gI} {P : gP} {LG : Option Nat} {LP : Option (Nat × Nat)}
theorem r_i {post : Int32 → gT → Prop} {v : Int32} (hx : p.tables.exec = Jvm.exec) (hb : cd.code = cc) (hr : meth.sig.returnType = some .int) (hlocks : meth.locks = false) (hK : gK D c s) (hH : gW D c sz ad k I J P LG LP H) (hS : va_S (gA sz) s.heap H locs) (hdg : decode cc pc = .ok (.ireturn, 1)) (hp : post v (ad, k, I, J, P, LG, LP)) : W p l e R s m args below meth cd H locs cells slots (MQ below (va_Qi post (gB D c sz) (gA sz)) args s cells slots (gA sz)) (F0 m pc ls [.int v]) :=
  W.iret hx hb hr (fun t ht hW => ⟨⟨v, (ad, k, I, J, P, LG, LP), rfl, hp, hK.moved hW, by rw [ht]; exact hH⟩, hS.F ht⟩) hS.2.2 hdg hlocks
theorem r_z {post : Int32 → gT → Prop} {v : Int32} (hx : p.tables.exec = Jvm.exec) (hb : cd.code = cc) (hr : meth.sig.returnType = some .boolean) (hlocks : meth.locks = false) (hK : gK D c s) (hH : gW D c sz ad k I J P LG LP H) (hS : va_S (gA sz) s.heap H locs) (hdg : decode cc pc = .ok (.ireturn, 1)) (h01 : v = 0 ∨ v = 1) (hp : post v (ad, k, I, J, P, LG, LP)) : W p l e R s m args below meth cd H locs cells slots (MQ below (va_Qi post (gB D c sz) (gA sz)) args s cells slots (gA sz)) (F0 m pc ls [.int v]) :=
  W.zret hx hb hr (nar01 h01) (fun t ht hW => ⟨⟨v, (ad, k, I, J, P, LG, LP), rfl, hp, hK.moved hW, by rw [ht]; exact hH⟩, hS.F ht⟩) hS.2.2 hdg hlocks
theorem r_l {post : Int64 → gT → Prop} {v : Int64} (hx : p.tables.exec = Jvm.exec) (hb : cd.code = cc) (hr : meth.sig.returnType = some .long) (hlocks : meth.locks = false) (hK : gK D c s) (hH : gW D c sz ad k I J P LG LP H) (hS : va_S (gA sz) s.heap H locs) (hdg : decode cc pc = .ok (.lreturn, 1)) (hp : post v (ad, k, I, J, P, LG, LP)) : W p l e R s m args below meth cd H locs cells slots (MQ below (va_Ql post (gB D c sz) (gA sz)) args s cells slots (gA sz)) (F0 m pc ls [.long v]) :=
  W.lret hx hb hr (fun t ht hW => ⟨⟨v, (ad, k, I, J, P, LG, LP), rfl, hp, hK.moved hW, by rw [ht]; exact hH⟩, hS.F ht⟩) hS.2.2 hdg hlocks
theorem r_v {post : gT → Prop} (hx : p.tables.exec = Jvm.exec) (hb : cd.code = cc) (hr : meth.sig.returnType = none) (hlocks : meth.locks = false) (hK : gK D c s) (hH : gW D c sz ad k I J P LG LP H) (hS : va_S (gA sz) s.heap H locs) (hdg : decode cc pc = .ok (.return_, 1)) (hp : post (ad, k, I, J, P, LG, LP)) : W p l e R s m args below meth cd H locs cells slots (MQ below (va_Qv post (gB D c sz) (gA sz)) args s cells slots (gA sz)) (F0 m pc ls []) :=
  W.vret hx hb hr (fun t ht hW => ⟨⟨(ad, k, I, J, P, LG, LP), rfl, hp, hK.moved hW, by rw [ht]; exact hH⟩, hS.F ht⟩) hS.2.2 hdg hlocks
theorem r_q {post : Option Nat → gT → Prop} (o : Option Nat) {rt : FieldType} (hx : p.tables.exec = Jvm.exec) (hb : cd.code = cc) (hr : meth.sig.returnType = some rt) (hrt : (∃ n, rt = .object n) ∨ ∃ t, rt = .array t) (hlocks : meth.locks = false) (hK : gK D c s) (hH : gW D c sz ad k I J P LG LP H) (hS : va_S (gA sz) s.heap H locs) (hdg : decode cc pc = .ok (.areturn, 1)) (hp : post o (ad, k, I, J, P, LG, LP)) : W p l e R s m args below meth cd H locs cells slots (MQ below (va_Qq post (gB D c sz) (gA sz)) args s cells slots (gA sz)) (F0 m pc ls [va_rf o]) :=
  W.aret hx hb hr hrt (va_rf_or o) (fun t ht hW => ⟨⟨o, (ad, k, I, J, P, LG, LP), rfl, hp, hK.moved hW, by rw [ht]; exact hH⟩, hS.F ht⟩) hS.2.2 hdg hlocks
end GR
