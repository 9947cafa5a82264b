/-! CONSTRUCTION: worlds that grow, a place at a time -/
def uA (ad : Nat × Nat → Nat) (i : Nat × Nat) (q : Nat) : Nat × Nat → Nat := fun j => if j = i then q else ad j
def uG (g : Nat × Nat → va_E) (i : Nat × Nat) (e : va_E) : Nat × Nat → va_E := fun j => if j = i then e else g j
theorem uA_s {ad : Nat × Nat → Nat} {i : Nat × Nat} {q : Nat} : uA ad i q i = q := by simp [uA]
theorem uA_n {ad : Nat × Nat → Nat} {i j : Nat × Nat} {q : Nat} (h : j ≠ i) : uA ad i q j = ad j := by simp [uA, h]
theorem uG_s {g : Nat × Nat → va_E} {i : Nat × Nat} {e : va_E} : uG g i e i = e := by simp [uG]
theorem uG_n {g : Nat × Nat → va_E} {i j : Nat × Nat} {e : va_E} (h : j ≠ i) : uG g i e j = g j := by simp [uG, h]
theorem wl_push {P : List (Nat × Nat)} {ad : Nat × Nat → Nat} {g : Nat × Nat → va_E} {i : Nat × Nat} {q : Nat} {e : va_E} (h : i ∉ P) : wl P ad g ++ [(q, e)] = wl (P ++ [i]) (uA ad i q) (uG g i e) := by
  unfold wl
  rw [List.map_append]
  congr 1
  · refine List.map_congr_left (fun j hj => ?_)
    have : j ≠ i := fun z => h (z ▸ hj)
    rw [uA_n this, uG_n this]
  · simp [uA, uG]
theorem wl_set {P : List (Nat × Nat)} {ad : Nat × Nat → Nat} {g : Nat × Nat → va_E} {i : Nat × Nat} (hn : P.Nodup) (hi : i ∈ P) : ∃ q0 : Nat, (wl P ad g)[q0]? = some (ad i, g i) ∧ ∀ e : va_E, (wl P ad g).set q0 (ad i, e) = wl P ad (uG g i e) := wl_at hn hi
/-- the world P, its addresses apart, each in A -/
def YW (D : va_G) (A : Nat → Prop) (P : List (Nat × Nat)) (ad : Nat × Nat → Nat) (g : Nat × Nat → va_E) (H : Heap) : Prop := P.Nodup ∧ va_P D vwCl (wl P ad g) H ∧ va_D A (wl P ad g)
theorem YW.cong {D : va_G} {A : Nat → Prop} {P P' : List (Nat × Nat)} {ad ad' : Nat × Nat → Nat} {g g' : Nat × Nat → va_E} {H : Heap} (h : YW D A P ad g H) (hP : P = P') (ha : ∀ i, i ∈ P → ad i = ad' i) (hg : ∀ i, i ∈ P → g i = g' i) : YW D A P' ad' g' H := by
  subst hP
  have e : wl P ad g = wl P ad' g' := by
    unfold wl
    exact List.map_congr_left (fun i hi => by rw [ha i hi, hg i hi])
  exact ⟨h.1, by rw [← e]; exact h.2.1, by rw [← e]; exact h.2.2⟩
/-- what the tables say, as the constructors need it -/
def Kx (D : va_G) (cy : Nat → ClassId) (U : State) : Prop := Kn D cy U ∧ va_AO "PageOwners$Letter" U ∧ va_AO "PageOwners$Node" U ∧ va_Nw (.methodLinkNest RX2 17 yX1_init "PageOwners") U ∧ va_Nw (.methodLinkNest RX3 11 yX0_init "PageOwners") U
theorem Kx.warm {D : va_G} {cy : Nat → ClassId} {s U : State} (hW : s.WarmedH U.vm) (h : Kx D cy s) : Kx D cy U := ⟨va_K.moved hW.alike h.1, va_AO.moved hW.alike h.2.1, va_AO.moved hW.alike h.2.2.1, va_Nw.warmM hW h.2.2.2.1, va_Nw.warmM hW h.2.2.2.2⟩
theorem Kx.call {D : va_G} {cy : Nat → ClassId} {U : State} {g : JFrame} {mk : MethodId} {a : Array Value} (h : Kx D cy U) : Kx D cy (U.calling g mk a) := ⟨va_K.moved (u := U) (U := U.calling g mk a) (Vm.Alike.refl U.vm) h.1, va_AO.moved (u := U) (U := U.calling g mk a) (Vm.Alike.refl U.vm) h.2.1, va_AO.moved (u := U) (U := U.calling g mk a) (Vm.Alike.refl U.vm) h.2.2.1, va_Nw.same rfl (u := U) (U := U.calling g mk a) rfl h.2.2.2.1, va_Nw.same rfl (u := U) (U := U.calling g mk a) rfl h.2.2.2.2⟩
/-- the cells that a constructor may touch: the world's, and new ones -/
def AX (P : List (Nat × Nat)) (ad : Nat × Nat → Nat) (sz : Nat) : Nat → Prop := fun z => (∃ i, i ∈ P ∧ z = ad i) ∨ sz ≤ z
theorem YW.self {D : va_G} {A : Nat → Prop} {P : List (Nat × Nat)} {ad : Nat × Nat → Nat} {g : Nat × Nat → va_E} {H : Heap} (h : YW D A P ad g H) (sz : Nat) : YW D (AX P ad sz) P ad g H := by
  refine ⟨h.1, h.2.1, h.2.2.1, fun k q hk => ?_⟩
  simp only [wl, List.getElem?_map] at hk
  cases hq : P[k]? with
  | none => rw [hq] at hk; cases hk
  | some i => rw [hq] at hk; cases hk; exact Or.inl ⟨i, List.mem_of_getElem? hq, rfl⟩
theorem YW.weak {D : va_G} {A B : Nat → Prop} {P : List (Nat × Nat)} {ad : Nat × Nat → Nat} {g : Nat × Nat → va_E} {H : Heap} (h : YW D A P ad g H) (hAB : ∀ q, A q → B q) : YW D B P ad g H := ⟨h.1, h.2.1, h.2.2.weaken (fun _ q _ hq => hAB q.1 hq)⟩
theorem YW.inA {D : va_G} {A : Nat → Prop} {P : List (Nat × Nat)} {ad : Nat × Nat → Nat} {g : Nat × Nat → va_E} {H : Heap} (h : YW D A P ad g H) {i : Nat × Nat} (hi : i ∈ P) : A (ad i) := by
  obtain ⟨q0, h1⟩ := wl_get (ad := ad) (g := g) hi
  exact h.2.2.2 q0 _ h1
theorem YW.inj {D : va_G} {A : Nat → Prop} {P : List (Nat × Nat)} {ad : Nat × Nat → Nat} {g : Nat × Nat → va_E} {H : Heap} (h : YW D A P ad g H) : ∀ i j, i ∈ P → j ∈ P → ad i = ad j → i = j := by
  intro i j hi hj hij
  obtain ⟨a, ha⟩ := List.getElem?_of_mem hi
  obtain ⟨b, hb⟩ := List.getElem?_of_mem hj
  have h1 : (wl P ad g)[a]? = some (ad i, g i) := by simp [wl, ha]
  have h2 : (wl P ad g)[b]? = some (ad j, g j) := by simp [wl, hb]
  have hab := h.2.2.1 a b _ _ h1 h2 hij
  subst hab
  exact Option.some.inj (ha.symm.trans hb)
section YR
variable {p : Program} {l : Launch} {e : Env} {R : Room} {s : State} {m : MethodId} {args : Array Value} {below : List Frame} {meth : Method} {c : Code} {H H0 : Heap} {locs : List Loc} {cells slots : Nat} {Q : State → Prop}
variable {cc : ByteArray} {pc : Nat} {ls : Array Slot} {rest : List Value} {D : va_G} {A : Nat → Prop} {P : List (Nat × Nat)} {ad : Nat × Nat → Nat} {g : Nat × Nat → va_E} {cy : Nat → ClassId}
theorem y_new (hexec : p.tables.exec = Jvm.exec) (hb : c.code = cc) {own C : String} {T : u_T} {N ci index : Nat} {Ts : List Cond} (hts : ∀ w ∈ Ts, w.before args s = true) (hin : ∀ w ∈ u_ws C T N, w ∈ Ts) (ty : Nat → FieldType) (hty : ∀ k, k < N → parseFieldDescriptor (T k).2.2.1 = some (ty k)) (hown : s.vm.findClass own = some m.cls) (hcl : (Cond.classLink own index C).before args s = true) (hinst : (Cond.instantiable C N).before args s = true) (hini : (Cond.initialized C).before args s = true)
    (hK : Kn D cy s) (hY : YW D A P ad g H) (hS : va_S A H0 H locs) (hA : ∀ q, H0.size ≤ q → A q) (hc : vwCl[ci]? = some (C, T, N)) {fs : List Value} (hfs : ∀ j, j < N → defaultValue (ty j) = vp_V fs j) (hcells : cells + 1 ≤ R.cells) (hslots : slots + N ≤ R.slots) (hdg : decode cc pc = .ok (.new index, 3)) (i : Nat × Nat) (hi : i ∉ P)
    (kk : ∀ (q : Nat) (H1 : Heap), YW D A (P ++ [i]) (uA ad i q) (uG g i (.inr (ci, fs))) H1 → va_S A H0 H1 locs →
      W p l e R s m args below meth c H1 locs (cells + 1) (slots + N) Q (F0 m (pc + 3) ls (.ref q :: rest))) : W p l e R s m args below meth c H locs cells slots Q (F0 m pc ls rest) :=
  va_new hexec hb hts hin ty hty hown hcl hinst hini hK hY.2.1 hY.2.2 hS hA hc hfs hcells hslots hdg (fun q H1 a b h => kk q H1 ⟨List.nodup_append.mpr ⟨hY.1, List.pairwise_singleton _ i, fun x hx y hy => by rw [List.mem_singleton] at hy; subst hy; exact fun z => hi (z ▸ hx)⟩, by rw [← wl_push hi]; exact a, by rw [← wl_push hi]; exact b⟩ h)
theorem y_newa (hexec : p.tables.exec = Jvm.exec) (hb : c.code = cc) {atype : ArrayType} (harr : (Cond.arrayClass (newarray.typeOf atype)).before args s = true) {ty : FieldType} (hty : newarray.typeOf atype = ty) (hK : Kn D cy s) (hY : YW D A P ad g H) (hS : va_S A H0 H locs) (hA : ∀ q, H0.size ≤ q → A q)
    {n : Int32} {N' : Nat} {a0 : vp_A} (t0 : Nat) {cA : ClassId} (ht0 : (tysL cy)[t0]? = some (cA, ty)) (hra : ∀ c1 c2 : ClassId, va_RA s c1 ty → va_RA s c2 ty → c1 = c2) (ha : ∀ cA : ClassId, vp_cell cA a0 = arrV cA N' (fun _ => defaultValue ty)) (hn : ¬ n < 0) (hN : n.toNatClampNeg = N') (hbytes : N' * componentBytes ty ≤ 536870912) (hcells : cells + 1 ≤ R.cells) (hslots : slots + N' ≤ R.slots) (hdg : decode cc pc = .ok (.newarray atype, 2)) (i : Nat × Nat) (hi : i ∉ P)
    (kk : ∀ (q : Nat) (H1 : Heap), YW D A (P ++ [i]) (uA ad i q) (uG g i (.inl (cA, a0))) H1 → va_S A H0 H1 locs →
      W p l e R s m args below meth c H1 locs (cells + 1) (slots + N') Q (F0 m (pc + 2) ls (.ref q :: rest))) : W p l e R s m args below meth c H locs cells slots Q (F0 m pc ls (.int n :: rest)) :=
  va_newa hexec hb harr hty hK hY.2.1 hY.2.2 hS hA ha hn hN hbytes hcells hslots hdg (fun q cB H1 k a b h => by
    have hcB : cB = cA := hra cB cA (k.2 5 _ rfl).2 (hK.2 t0 _ ht0).2
    subst hcB
    exact kk q H1 ⟨List.nodup_append.mpr ⟨hY.1, List.pairwise_singleton _ i, fun x hx y hy => by rw [List.mem_singleton] at hy; subst hy; exact fun z => hi (z ▸ hx)⟩, by rw [← wl_push hi]; exact a, by rw [← wl_push hi]; exact b⟩ h)
theorem y_newq (hexec : p.tables.exec = Jvm.exec) (hb : c.code = cc) {own C : String} {index : Nat} (hown : s.vm.findClass own = some m.cls) (hclink : (Cond.classLink own index C).before args s = true) (hover : va_AO C s) (hK : Kn D cy s) (hY : YW D A P ad g H) (hS : va_S A H0 H locs) (hA : ∀ q, H0.size ≤ q → A q)
    {n : Int32} {N' : Nat} (t0 : Nat) {cA : ClassId} (ht0 : (tysL cy)[t0]? = some (cA, .object C)) (hn : ¬ n < 0) (hN : n.toNatClampNeg = N') (hbytes : N' * 4 ≤ 536870912) (hcells : cells + 1 ≤ R.cells) (hslots : slots + N' ≤ R.slots) (hdg : decode cc pc = .ok (.anewarray index, 3)) (i : Nat × Nat) (hi : i ∉ P)
    (kk : ∀ (q : Nat) (H1 : Heap), YW D A (P ++ [i]) (uA ad i q) (uG g i (.inl (cA, N', .inr (.inr (.inr (.inr (fun _ => none))))))) H1 → va_S A H0 H1 locs →
      W p l e R s m args below meth c H1 locs (cells + 1) (slots + N') Q (F0 m (pc + 3) ls (.ref q :: rest))) : W p l e R s m args below meth c H locs cells slots Q (F0 m pc ls (.int n :: rest)) :=
  va_newq hexec hb hown hclink hover hK hY.2.1 hY.2.2 hS hA hn hN hbytes hcells hslots hdg (fun q cB H1 k a b h => by
    have hcB : cB = cA := by
      obtain ⟨_, _, -, -, -, e1⟩ := (k.2 5 _ rfl).2
      obtain ⟨_, _, -, -, -, e2⟩ := (hK.2 t0 _ ht0).2
      exact Option.some.inj (e1.symm.trans e2)
    subst hcB
    exact kk q H1 ⟨List.nodup_append.mpr ⟨hY.1, List.pairwise_singleton _ i, fun x hx y hy => by rw [List.mem_singleton] at hy; subst hy; exact fun z => hi (z ▸ hx)⟩, by rw [← wl_push hi]; exact a, by rw [← wl_push hi]; exact b⟩ h)
theorem y_putF (hexec : p.tables.exec = Jvm.exec) (hb : c.code = cc) {own ref C : String} {T : u_T} {N ci index : Nat} {Ts : List Cond} (hts : ∀ w ∈ Ts, w.before args s = true) (hin : ∀ w ∈ u_ws C T N, w ∈ Ts) (ty0 : Nat → FieldType) (hty : ∀ k, k < N → parseFieldDescriptor (T k).2.2.1 = some (ty0 k)) (hnm : ∀ a, a < N → ∀ b, b < N → a ≠ b → (T a).2.1 ≠ (T b).2.1) (hown : s.vm.findClass own = some m.cls) (hK : Kn D cy s) (hY : YW D A P ad g H) (hS0 : va_S A H0 H locs) (i : Nat × Nat) (hi : i ∈ P) {a : Nat} (ha : ad i = a) {fs : List Value} (he : g i = .inr (ci, fs)) (hc : vwCl[ci]? = some (C, T, N)) (k : Nat) (hk : k < N) (hlink : (Cond.fieldLink own index ref (T k).2.1 (T k).2.2.1).before args s = true) (hsame : ∀ x, s.fieldFound? (T k).1 (T k).2.1 (T k).2.2.1 = some x → s.fieldFound? ref (T k).2.1 (T k).2.2.1 = some x) (hfin : (T k).2.2.2 = true) (hin2 : meth.name = "<init>") (hdecl : (T k).1 = own) {ty : FieldType} {v : Value} (hd : parseFieldDescriptor (T k).2.2.1 = some ty) (hn : narrow ty v = v) (hfit : fits ty v = true) (hl : k < fs.length)
    (hdg : decode cc pc = .ok (.putfield index, 3)) (kk : ∀ (H1 : Heap) (locs1 : List Loc), YW D A P ad (uG g i (.inr (ci, fs.set k v))) H1 → va_S A H0 H1 locs1 → W p l e R s m args below meth c H1 locs1 cells slots Q (F0 m (pc + 3) ls rest)) : W p l e R s m args below meth c H locs cells slots Q (F0 m pc ls (v :: .ref a :: rest)) := by
  subst ha
  obtain ⟨q0, h1, h2⟩ := wl_set (ad := ad) (g := g) hY.1 hi
  refine va_putF hexec hb hts hin ty0 hty hnm hown hK hY.2.1 hY.2.2 hS0 q0 (h1.trans (congrArg (fun z => some (ad i, z)) he)) hc k hk hlink hsame hfin hin2 hdecl hd hn hfit hl hdg (fun H1 locs1 g1 g2 g3 => kk H1 locs1 ⟨hY.1, ?_, ?_⟩ g3)
  · rw [h2] at g1; exact g1
  · rw [h2] at g2; exact g2
theorem y_get (hexec : p.tables.exec = Jvm.exec) (hb : c.code = cc) {own ref C : String} {T : u_T} {N ci index : Nat} {Ts : List Cond} (hts : ∀ w ∈ Ts, w.before args s = true) (hin : ∀ w ∈ u_ws C T N, w ∈ Ts) (hown : s.vm.findClass own = some m.cls) (hK : Kn D cy s) (hY : YW D A P ad g H) (i : Nat × Nat) (hi : i ∈ P) {a : Nat} (ha : ad i = a) {fs : List Value} (he : g i = .inr (ci, fs)) (hc : vwCl[ci]? = some (C, T, N)) (k : Nat) (hk : k < N) (hlink : (Cond.fieldLink own index ref (T k).2.1 (T k).2.2.1).before args s = true) (hsame : ∀ x, s.fieldFound? (T k).1 (T k).2.1 (T k).2.2.1 = some x → s.fieldFound? ref (T k).2.1 (T k).2.2.1 = some x) {v : Value} (hv : fs[k]? = some v) (hdg : decode cc pc = .ok (.getfield index, 3))
    (kk : W p l e R s m args below meth c H locs cells slots Q (F0 m (pc + 3) ls (v :: rest))) : W p l e R s m args below meth c H locs cells slots Q (F0 m pc ls (.ref a :: rest)) := by
  subst ha
  obtain ⟨q0, h1⟩ := wl_get (ad := ad) (g := g) hi
  exact va_get hexec hb hts hin hown hK hY.2.1 q0 (h1.trans (congrArg (fun z => some (ad i, z)) he)) hc k hk hlink hsame hv hdg kk
theorem y_astq (hexec : p.tables.exec = Jvm.exec) (hb : c.code = cc) (hK : Kn D cy s) (hY : YW D A P ad g H) (hS : va_S A H0 H locs) (i : Nat × Nat) (hi : i ∈ P) {a : Nat} (ha : ad i = a) (i2 : Nat × Nat) (hi2 : i2 ∈ P) {v : Nat} (hv : ad i2 = v) (t0 ci : Nat) {cA : ClassId} {r : vw_C} {n : Nat} {vs : List Value} {f : Nat → Option Nat} (he : g i = .inl (cA, n, .inr (.inr (.inr (.inr f))))) (ht : (tysL cy)[t0]? = some (cA, .object r.1)) (he2 : g i2 = .inr (ci, vs)) (hc : vwCl[ci]? = some r) {x : Int32} (hin : vp_in x n) (hdg : decode cc pc = .ok (.aastore, 1))
    (kk : ∀ (H1 : Heap) (locs1 : List Loc), YW D A P ad (uG g i (.inl (cA, n, .inr (.inr (.inr (.inr (va_up f (ix x) (some v)))))))) H1 → va_S A H0 H1 locs1 → W p l e R s m args below meth c H1 locs1 cells slots Q (F0 m (pc + 1) ls rest)) : W p l e R s m args below meth c H locs cells slots Q (F0 m pc ls (.ref v :: .int x :: .ref a :: rest)) := by
  subst ha
  subst hv
  obtain ⟨q0, h1, h2⟩ := wl_set (ad := ad) (g := g) hY.1 hi
  obtain ⟨qk, h3⟩ := wl_get (ad := ad) (g := g) hi2
  refine va_astq hexec hb hK hY.2.1 hY.2.2 hS q0 t0 qk ci (h1.trans (congrArg (fun z => some (ad i, z)) he)) ht (h3.trans (congrArg (fun z => some (ad i2, z)) he2)) hc hin hdg (fun H1 locs1 g1 g2 g3 => kk H1 locs1 ⟨hY.1, ?_, ?_⟩ g3)
  · rw [h2] at g1; exact g1
  · rw [h2] at g2; exact g2
end YR
theorem ra_p {s : State} {ty : FieldType} (h : ty = .int ∨ ty = .long ∨ ty = .boolean) (c1 c2 : ClassId) (h1 : va_RA s c1 ty) (h2 : va_RA s c2 ty) : c1 = c2 := by
  rcases h with rfl | rfl | rfl <;> exact Option.some.inj ((show s.vm.findClass _ = some c1 from h1).symm.trans h2)
