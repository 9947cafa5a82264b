/-! THE STATE OF ALL CELLS, AND THE ROWS OVER IT. A place is a pair (kind, number): kinds 0..16 the class's cells, 20..44 the reference's. -/
abbrev Sg : Type := (Nat → Nat → Nat → Int32) × (Nat → Nat → Nat → Int64) × (Nat → Nat)
def sI (σ : Sg) (a k f : Nat) (v : Int32) : Sg := (fun a' k' f' => if a' = a ∧ k' = k ∧ f' = f then v else σ.1 a' k' f', σ.2.1, σ.2.2)
def sL (σ : Sg) (a k f : Nat) (v : Int64) : Sg := (σ.1, fun a' k' f' => if a' = a ∧ k' = k ∧ f' = f then v else σ.2.1 a' k' f', σ.2.2)
def sR (σ : Sg) (j x : Nat) : Sg := (σ.1, σ.2.1, fun j' => if j' = j then x else σ.2.2 j')
def sC (σ : Sg) (a k sp b h dp n : Nat) : Sg := (σ.1, fun a' k' f' => if a' = b ∧ k' = h then va_cpy (σ.2.1 a k) (σ.2.1 b h) sp dp n f' else σ.2.1 a' k' f', σ.2.2)
abbrev ix (x : Int32) : Nat := x.toNatClampNeg
theorem zn {v : Int32} (h : v = 0 ∨ v = 1) : narrow .boolean (.int v) = .int v := by rcases h with rfl | rfl <;> rfl
theorem zf {v : Int32} (h : v = 0 ∨ v = 1) : fits .boolean (.int v) = true := by rcases h with rfl | rfl <;> rfl
theorem ix_lt {x : Int32} {n : Nat} (h : vp_in x n) : ix x < n := Nat.not_le.mp fun q => h (Or.inr q)
/-- what a cell holds -/
def cel (ad : Nat × Nat → Nat) (cy : Nat → ClassId) (a k : Nat) (i : Nat → Int32) (j : Nat → Int64) (r : Nat → Nat) : va_E := match a with
  | 0 => .inr (4, [.ref (ad (1, 0)), .ref (ad (3, 0)), .ref (ad (2, 0)), .int (i 3)])
  | 1 => .inl (cy 4, 6, .inr (.inr (.inr (.inr (fun q => some (ad (5, q)))))))
  | 2 => .inl (cy 0, 8, .inl i)
  | 3 => .inr (2, [.ref (ad (4, 0)), .int (i 1)])
  | 4 => .inl (cy 3, 32, .inr (.inr (.inr (.inr (fun q => some (ad (15, r q)))))))
  | 5 => .inr (3, [.int (i 0), .ref (ad (6, k)), .ref (ad (7, k)), .ref (ad (8, k)), .ref (ad (9, k)), .ref (ad (10, k)), .ref (ad (11, k)), .ref (ad (12, k)), .ref (ad (13, k)), .ref (ad (14, k))])
  | 6 => .inr (0, [.int (i 0), .int (i 1), .int (i 2), .int (i 3), .int (i 4), .long (j 5), .int (i 6), .int (i 7), .int (i 8), .long (j 9)])
  | 7 => .inl (cy 0, 8, .inl i)
  | 8 => .inl (cy 2, 8, .inl i)
  | 9 => .inl (cy 0, 8, .inl i)
  | 10 => .inl (cy 0, 8, .inl i)
  | 11 => .inl (cy 1, 32, .inr (.inl j))
  | 12 => .inl (cy 0, 8, .inl i)
  | 13 => .inl (cy 0, 48, .inl i)
  | 14 => .inl (cy 0, 48, .inl i)
  | 15 => .inr (1, [.int (i 0), .int (i 1), .int (i 2), .int (i 3), .int (i 4), .int (i 5), .ref (ad (16, k))])
  | 16 => .inl (cy 1, 4, .inr (.inl j))
  | 20 => .inr (5, [.int (i 0), .ref (ad (21, 0)), .ref (ad (22, 0)), .ref (ad (23, 0)), .ref (ad (24, 0)), .ref (ad (25, 0)), .ref (ad (26, 0)), .ref (ad (27, 0)), .ref (ad (28, 0)), .ref (ad (29, 0)), .ref (ad (30, 0)), .ref (ad (31, 0)), .ref (ad (32, 0)), .ref (ad (33, 0)), .ref (ad (34, 0)), .ref (ad (35, 0)), .ref (ad (36, 0)), .ref (ad (37, 0)), .ref (ad (38, 0)), .ref (ad (39, 0)), .int (i 20), .ref (ad (41, 0)), .ref (ad (42, 0)), .ref (ad (43, 0)), .ref (ad (44, 0))])
  | 21 => .inl (cy 0, 48, .inl i)
  | 22 => .inl (cy 2, 48, .inl i)
  | 23 => .inl (cy 0, 48, .inl i)
  | 24 => .inl (cy 0, 48, .inl i)
  | 25 => .inl (cy 1, 192, .inr (.inl j))
  | 26 => .inl (cy 0, 960, .inl i)
  | 27 => .inl (cy 0, 48, .inl i)
  | 28 => .inl (cy 0, 6, .inl i)
  | 29 => .inl (cy 0, 6, .inl i)
  | 30 => .inl (cy 0, 6, .inl i)
  | 31 => .inl (cy 2, 6, .inl i)
  | 32 => .inl (cy 1, 6, .inr (.inl j))
  | 33 => .inl (cy 0, 6, .inl i)
  | 34 => .inl (cy 2, 6, .inl i)
  | 35 => .inl (cy 2, 6, .inl i)
  | 36 => .inl (cy 0, 6, .inl i)
  | 37 => .inl (cy 1, 6, .inr (.inl j))
  | 38 => .inl (cy 0, 1400, .inl i)
  | 39 => .inl (cy 1, 800, .inr (.inl j))
  | 41 => .inl (cy 0, 8, .inl i)
  | 42 => .inl (cy 0, 7, .inl i)
  | 43 => .inl (cy 1, 4, .inr (.inl j))
  | _ => .inl (cy 0, 20, .inl i)
def nk (a : Nat) : Nat := if a < 5 then 1 else if a < 15 then 6 else if a < 17 then 32 else if a < 20 then 0 else if a = 40 then 0 else if a < 45 then 1 else 0
/-- the class's places are among P, the reference's places are among P -/
def InC (P : List (Nat × Nat)) : Prop := ∀ a k, a < 20 → k < nk a → (a, k) ∈ P
def InM (P : List (Nat × Nat)) : Prop := ∀ a k, 20 ≤ a → a < 45 → k < nk a → (a, k) ∈ P
theorem in6 {P : List (Nat × Nat)} (h : InC P) {a k : Nat} (ha : 5 ≤ a ∧ a < 15) (hk : k < 6) : (a, k) ∈ P := h a k (by omega) (by unfold nk; rw [if_neg (by omega), if_pos (by omega)]; exact hk)
theorem in32 {P : List (Nat × Nat)} (h : InC P) {a k : Nat} (ha : 15 ≤ a ∧ a < 17) (hk : k < 32) : (a, k) ∈ P := h a k (by omega) (by unfold nk; rw [if_neg (by omega), if_neg (by omega), if_pos (by omega)]; exact hk)
theorem in1 {P : List (Nat × Nat)} (h : InC P) {a : Nat} (ha : a < 20) (hk : nk a = 1) : (a, 0) ∈ P := h a 0 ha (by omega)
theorem in1m {P : List (Nat × Nat)} (h : InM P) {a : Nat} (ha : 20 ≤ a ∧ a < 45) (hk : nk a = 1) : (a, 0) ∈ P := h a 0 ha.1 ha.2 (by omega)
def wl (P : List (Nat × Nat)) (ad : Nat × Nat → Nat) (g : Nat × Nat → va_E) : va_W := P.map (fun i => (ad i, g i))
theorem wl_get {P : List (Nat × Nat)} {ad : Nat × Nat → Nat} {g : Nat × Nat → va_E} {i : Nat × Nat} (hi : i ∈ P) : ∃ q0 : Nat, (wl P ad g)[q0]? = some (ad i, g i) := by
  obtain ⟨q0, hq⟩ := List.getElem?_of_mem hi
  exact ⟨q0, by simp [wl, hq]⟩
theorem wl_at {P : List (Nat × Nat)} {ad : Nat × Nat → Nat} {g : Nat × Nat → va_E} {i : Nat × Nat} (hn : P.Nodup) (hi : i ∈ P) : ∃ q0 : Nat, (wl P ad g)[q0]? = some (ad i, g i) ∧ ∀ e : va_E, (wl P ad g).set q0 (ad i, e) = wl P ad (fun j => if j = i then e else g j) := by
  obtain ⟨q0, hq⟩ := List.getElem?_of_mem hi
  refine ⟨q0, by simp [wl, hq], fun e => ?_⟩
  apply List.ext_getElem?
  intro n
  by_cases hnq : n = q0
  · subst hnq
    have hl : n < (wl P ad g).length := by simpa [wl] using (List.getElem?_eq_some_iff.mp hq).1
    rw [List.getElem?_set_self hl]
    simp [wl, hq]
  · rw [List.getElem?_set_ne (Ne.symm hnq)]
    simp only [wl, List.getElem?_map]
    cases hx : P[n]? with
    | none => rfl
    | some j =>
      have hj : j ≠ i := by
        intro hji
        subst hji
        exact hnq ((List.getElem?_inj (List.getElem?_eq_some_iff.mp hx).1 hn).mp (hx.trans hq.symm))
      simp [hj]
theorem wl_congr {P : List (Nat × Nat)} {ad : Nat × Nat → Nat} {g g' : Nat × Nat → va_E} (h : ∀ i, i ∈ P → g i = g' i) : wl P ad g = wl P ad g' := by
  unfold wl
  exact List.map_congr_left (fun i hi => by rw [h i hi])
def ctt (ad : Nat × Nat → Nat) (cy : Nat → ClassId) (σ : Sg) : Nat × Nat → va_E := fun i => cel ad cy i.1 i.2 (σ.1 i.1 i.2) (σ.2.1 i.1 i.2) σ.2.2
abbrev tysL (cy : Nat → ClassId) : List (ClassId × FieldType) := [(cy 0, .int), (cy 1, .long), (cy 2, .boolean), (cy 3, .object "PageOwners$Letter"), (cy 4, .object "PageOwners$Node")]
def Wo (D : va_G) (P : List (Nat × Nat)) (ad : Nat × Nat → Nat) (cy : Nat → ClassId) (σ : Sg) (H : Heap) : Prop := va_P D vwCl (wl P ad (ctt ad cy σ)) H
def Kn (D : va_G) (cy : Nat → ClassId) (U : State) : Prop := va_K D vwCl (tysL cy) U
def Aof (P : List (Nat × Nat)) (ad : Nat × Nat → Nat) : Nat → Prop := fun q => ∃ i, i ∈ P ∧ q = ad i
def AdOk (P : List (Nat × Nat)) (ad : Nat × Nat → Nat) : Prop := P.Nodup ∧ (∀ k, (4, k) ∈ P → k = 0) ∧ ∀ i j, i ∈ P → j ∈ P → ad i = ad j → i = j
theorem AdOk.D {P : List (Nat × Nat)} {ad : Nat × Nat → Nat} (h : AdOk P ad) (g : Nat × Nat → va_E) : va_D (Aof P ad) (wl P ad g) := by
  have key : ∀ (n : Nat) (x : Nat × va_E), (wl P ad g)[n]? = some x → ∃ i, P[n]? = some i ∧ x.1 = ad i := by
    intro n x hx
    simp only [wl, List.getElem?_map] at hx
    cases hq : P[n]? with
    | none => rw [hq] at hx; cases hx
    | some i => rw [hq] at hx; cases hx; exact ⟨i, rfl, rfl⟩
  refine ⟨fun i j x y hi hj hxy => ?_, fun k q hk => ?_⟩
  · obtain ⟨a, ha, ea⟩ := key i x hi
    obtain ⟨b, hb, eb⟩ := key j y hj
    have hab : a = b := h.2.2 a b (List.mem_of_getElem? ha) (List.mem_of_getElem? hb) (by rw [← ea, ← eb]; exact hxy)
    subst hab
    exact (List.getElem?_inj (List.getElem?_eq_some_iff.mp ha).1 h.1).mp (ha.trans hb.symm)
  · obtain ⟨a, ha, ea⟩ := key k q hk
    exact ⟨a, List.mem_of_getElem? ha, ea⟩
theorem ctt_I {ad : Nat × Nat → Nat} {cy : Nat → ClassId} {σ : Sg} (a k f : Nat) (v : Int32) : (fun j => if j = (a, k) then cel ad cy a k (upd (σ.1 a k) f v) (σ.2.1 a k) σ.2.2 else ctt ad cy σ j) = ctt ad cy (sI σ a k f v) := by
  funext ⟨b, h⟩
  by_cases hb : (b, h) = (a, k)
  · cases hb
    rw [if_pos rfl]
    show _ = cel ad cy a k _ _ _
    congr 1
    funext f'
    simp [upd, sI]
  · rw [if_neg hb]
    show cel ad cy b h _ _ _ = cel ad cy b h _ _ _
    congr 1
    funext f'
    have : ¬ (b = a ∧ h = k ∧ f' = f) := fun q => hb (by rw [q.1, q.2.1])
    simp [sI, this]
theorem ctt_L {ad : Nat × Nat → Nat} {cy : Nat → ClassId} {σ : Sg} (a k f : Nat) (v : Int64) : (fun j => if j = (a, k) then cel ad cy a k (σ.1 a k) (vp_updL (σ.2.1 a k) f v) σ.2.2 else ctt ad cy σ j) = ctt ad cy (sL σ a k f v) := by
  funext ⟨b, h⟩
  by_cases hb : (b, h) = (a, k)
  · cases hb
    rw [if_pos rfl]
    show _ = cel ad cy a k _ _ _
    congr 1
    funext f'
    simp [vp_updL, sL]
  · rw [if_neg hb]
    show cel ad cy b h _ _ _ = cel ad cy b h _ _ _
    congr 1
    funext f'
    have : ¬ (b = a ∧ h = k ∧ f' = f) := fun q => hb (by rw [q.1, q.2.1])
    simp [sL, this]
theorem ctt_C {ad : Nat × Nat → Nat} {cy : Nat → ClassId} {σ : Sg} (a k sp b h dp n : Nat) : (fun j => if j = (b, h) then cel ad cy b h (σ.1 b h) (va_cpy (σ.2.1 a k) (σ.2.1 b h) sp dp n) σ.2.2 else ctt ad cy σ j) = ctt ad cy (sC σ a k sp b h dp n) := by
  funext ⟨b', h'⟩
  by_cases hb : (b', h') = (b, h)
  · cases hb
    rw [if_pos rfl]
    show _ = cel ad cy b h _ _ _
    congr 1
    funext f'
    simp [sC]
  · rw [if_neg hb]
    show cel ad cy b' h' _ _ _ = cel ad cy b' h' _ _ _
    congr 1
    funext f'
    have : ¬ (b' = b ∧ h' = h) := fun q => hb (by rw [q.1, q.2])
    simp [sC, this]
theorem cel_r {ad : Nat × Nat → Nat} {cy : Nat → ClassId} {a k : Nat} {i : Nat → Int32} {j : Nat → Int64} {r r' : Nat → Nat} (h : a ≠ 4) : cel ad cy a k i j r = cel ad cy a k i j r' := by
  unfold cel
  split <;> first | rfl | exact absurd rfl h
theorem ctt_R {P : List (Nat × Nat)} {ad : Nat × Nat → Nat} {cy : Nat → ClassId} {σ : Sg} (h4 : ∀ k, (4, k) ∈ P → k = 0) (j x : Nat) : wl P ad (fun q => if q = (4, 0) then .inl (cy 3, 32, .inr (.inr (.inr (.inr (va_up (fun q => some (ad (15, σ.2.2 q))) j (some (ad (15, x)))))))) else ctt ad cy σ q) = wl P ad (ctt ad cy (sR σ j x)) := by
  refine wl_congr (fun q hq => ?_)
  obtain ⟨b, h⟩ := q
  by_cases hb : (b, h) = (4, 0)
  · cases hb
    rw [if_pos rfl]
    show _ = cel ad cy 4 0 _ _ _
    show _ = (Sum.inl (cy 3, 32, .inr (.inr (.inr (.inr (fun q => some (ad (15, (sR σ j x).2.2 q))))))) : va_E)
    congr 7
    funext q
    by_cases hq : q = j
    · subst hq; simp [va_up, sR]
    · simp [va_up, sR, hq]
  · rw [if_neg hb]
    have hb4 : b ≠ 4 := by
      intro e
      subst e
      exact hb (by rw [h4 h hq])
    show cel ad cy b h _ _ _ = cel ad cy b h _ _ _
    exact cel_r hb4
section XR
variable {p : Program} {l : Launch} {e : Env} {R : Room} {s : State} {m : MethodId} {args : Array Value} {below : List Frame} {meth : Method} {c : Code} {H H0 : Heap} {locs : List Loc} {cells slots : Nat} {Q : State → Prop}
variable {cc : ByteArray} {pc : Nat} {ls : Array Slot} {rest : List Value} {D : va_G} {P : List (Nat × Nat)} {ad : Nat × Nat → Nat} {cy : Nat → ClassId} {σ : Sg}
theorem x_get (hexec : p.tables.exec = Jvm.exec) (hb : c.code = cc) {own ref C : String} {T : u_T} {N ci index : Nat} {Ts : List Cond} (hts : ∀ w ∈ Ts, w.before args s = true) (hin : ∀ w ∈ u_ws C T N, w ∈ Ts) (hown : s.vm.findClass own = some m.cls) (hK : Kn D cy s) (hP : Wo D P ad cy σ H) {a k : Nat} (hi : (a, k) ∈ P) {fs : List Value} (he : cel ad cy a k (σ.1 a k) (σ.2.1 a k) σ.2.2 = .inr (ci, fs)) (hc : vwCl[ci]? = some (C, T, N)) (f : Nat) (hf : f < N) (hlink : (Cond.fieldLink own index ref (T f).2.1 (T f).2.2.1).before args s = true) (hsame : ∀ x, s.fieldFound? (T f).1 (T f).2.1 (T f).2.2.1 = some x → s.fieldFound? ref (T f).2.1 (T f).2.2.1 = some x) {v : Value} (hv : fs[f]? = some v) (hdg : decode cc pc = .ok (.getfield index, 3))
    (kk : W p l e R s m args below meth c H locs cells slots Q (F0 m (pc + 3) ls (v :: rest))) : W p l e R s m args below meth c H locs cells slots Q (F0 m pc ls (.ref (ad (a, k)) :: rest)) := by
  obtain ⟨q0, h1⟩ := wl_get (ad := ad) (g := ctt ad cy σ) hi
  exact va_get hexec hb hts hin hown hK hP q0 (h1.trans (congrArg (fun z => some (ad (a, k), z)) he)) hc f hf hlink hsame hv hdg kk
theorem x_puti (hexec : p.tables.exec = Jvm.exec) (hb : c.code = cc) {own ref C : String} {T : u_T} {N ci index : Nat} {Ts : List Cond} (hts : ∀ w ∈ Ts, w.before args s = true) (hin : ∀ w ∈ u_ws C T N, w ∈ Ts) (ty0 : Nat → FieldType) (hty : ∀ k, k < N → parseFieldDescriptor (T k).2.2.1 = some (ty0 k)) (hnm : ∀ a, a < N → ∀ b, b < N → a ≠ b → (T a).2.1 ≠ (T b).2.1) (hown : s.vm.findClass own = some m.cls) (hK : Kn D cy s) (hP : Wo D P ad cy σ H) (hAd : AdOk P ad) (hS0 : va_S (Aof P ad) H0 H locs) {a k : Nat} (hi : (a, k) ∈ P) {fs : List Value} (he : cel ad cy a k (σ.1 a k) (σ.2.1 a k) σ.2.2 = .inr (ci, fs)) (hc : vwCl[ci]? = some (C, T, N)) (f : Nat) (hf : f < N) (hlink : (Cond.fieldLink own index ref (T f).2.1 (T f).2.2.1).before args s = true) (hsame : ∀ x, s.fieldFound? (T f).1 (T f).2.1 (T f).2.2.1 = some x → s.fieldFound? ref (T f).2.1 (T f).2.2.1 = some x) (hfin : (T f).2.2.2 = false) {ty : FieldType} {v : Int32} (hd : parseFieldDescriptor (T f).2.2.1 = some ty) (hn : narrow ty (.int v) = .int v) (hfit : fits ty (.int v) = true) (hl : f < fs.length) (hnew : (Sum.inr (ci, fs.set f (.int v)) : va_E) = cel ad cy a k (upd (σ.1 a k) f v) (σ.2.1 a k) σ.2.2)
    (hdg : decode cc pc = .ok (.putfield index, 3)) (kk : ∀ (H1 : Heap) (locs1 : List Loc), Wo D P ad cy (sI σ a k f v) H1 → va_S (Aof P ad) H0 H1 locs1 → W p l e R s m args below meth c H1 locs1 cells slots Q (F0 m (pc + 3) ls rest)) : W p l e R s m args below meth c H locs cells slots Q (F0 m pc ls (.int v :: .ref (ad (a, k)) :: rest)) := by
  obtain ⟨q0, h1, h2⟩ := wl_at (ad := ad) (g := ctt ad cy σ) hAd.1 hi
  refine va_put hexec hb hts hin ty0 hty hnm hown hK hP (hAd.D _) hS0 q0 (h1.trans (congrArg (fun z => some (ad (a, k), z)) he)) hc f hf hlink hsame hfin hd hn hfit hl hdg (fun H1 locs1 g1 _ g3 => kk H1 locs1 ?_ g3)
  rw [h2, hnew, ctt_I] at g1
  exact g1
theorem x_putl (hexec : p.tables.exec = Jvm.exec) (hb : c.code = cc) {own ref C : String} {T : u_T} {N ci index : Nat} {Ts : List Cond} (hts : ∀ w ∈ Ts, w.before args s = true) (hin : ∀ w ∈ u_ws C T N, w ∈ Ts) (ty0 : Nat → FieldType) (hty : ∀ k, k < N → parseFieldDescriptor (T k).2.2.1 = some (ty0 k)) (hnm : ∀ a, a < N → ∀ b, b < N → a ≠ b → (T a).2.1 ≠ (T b).2.1) (hown : s.vm.findClass own = some m.cls) (hK : Kn D cy s) (hP : Wo D P ad cy σ H) (hAd : AdOk P ad) (hS0 : va_S (Aof P ad) H0 H locs) {a k : Nat} (hi : (a, k) ∈ P) {fs : List Value} (he : cel ad cy a k (σ.1 a k) (σ.2.1 a k) σ.2.2 = .inr (ci, fs)) (hc : vwCl[ci]? = some (C, T, N)) (f : Nat) (hf : f < N) (hlink : (Cond.fieldLink own index ref (T f).2.1 (T f).2.2.1).before args s = true) (hsame : ∀ x, s.fieldFound? (T f).1 (T f).2.1 (T f).2.2.1 = some x → s.fieldFound? ref (T f).2.1 (T f).2.2.1 = some x) (hfin : (T f).2.2.2 = false) {ty : FieldType} {v : Int64} (hd : parseFieldDescriptor (T f).2.2.1 = some ty) (hn : narrow ty (.long v) = .long v) (hfit : fits ty (.long v) = true) (hl : f < fs.length) (hnew : (Sum.inr (ci, fs.set f (.long v)) : va_E) = cel ad cy a k (σ.1 a k) (vp_updL (σ.2.1 a k) f v) σ.2.2)
    (hdg : decode cc pc = .ok (.putfield index, 3)) (kk : ∀ (H1 : Heap) (locs1 : List Loc), Wo D P ad cy (sL σ a k f v) H1 → va_S (Aof P ad) H0 H1 locs1 → W p l e R s m args below meth c H1 locs1 cells slots Q (F0 m (pc + 3) ls rest)) : W p l e R s m args below meth c H locs cells slots Q (F0 m pc ls (.long v :: .ref (ad (a, k)) :: rest)) := by
  obtain ⟨q0, h1, h2⟩ := wl_at (ad := ad) (g := ctt ad cy σ) hAd.1 hi
  refine va_put hexec hb hts hin ty0 hty hnm hown hK hP (hAd.D _) hS0 q0 (h1.trans (congrArg (fun z => some (ad (a, k), z)) he)) hc f hf hlink hsame hfin hd hn hfit hl hdg (fun H1 locs1 g1 _ g3 => kk H1 locs1 ?_ g3)
  rw [h2, hnew, ctt_L] at g1
  exact g1
theorem x_iald (hexec : p.tables.exec = Jvm.exec) (hb : c.code = cc) (hK : Kn D cy s) (hP : Wo D P ad cy σ H) {a k n : Nat} (hi : (a, k) ∈ P) (he : ∀ i, cel ad cy a k i (σ.2.1 a k) σ.2.2 = .inl (cy 0, n, .inl i)) {i : Int32} (hin : vp_in i n) (hdg : decode cc pc = .ok (.iaload, 1))
    (kk : W p l e R s m args below meth c H locs cells slots Q (F0 m (pc + 1) ls (.int (σ.1 a k (ix i)) :: rest))) : W p l e R s m args below meth c H locs cells slots Q (F0 m pc ls (.int i :: .ref (ad (a, k)) :: rest)) := by
  obtain ⟨q0, h1⟩ := wl_get (ad := ad) (g := ctt ad cy σ) hi
  exact va_iald hexec hb hK hP q0 0 (h1.trans (congrArg (fun z => some (ad (a, k), z)) (he _))) rfl hin hdg kk
theorem x_zald (hexec : p.tables.exec = Jvm.exec) (hb : c.code = cc) (hK : Kn D cy s) (hP : Wo D P ad cy σ H) {a k n : Nat} (hi : (a, k) ∈ P) (he : ∀ i, cel ad cy a k i (σ.2.1 a k) σ.2.2 = .inl (cy 2, n, .inl i)) {i : Int32} (hin : vp_in i n) (hdg : decode cc pc = .ok (.baload, 1))
    (kk : W p l e R s m args below meth c H locs cells slots Q (F0 m (pc + 1) ls (.int (σ.1 a k (ix i)) :: rest))) : W p l e R s m args below meth c H locs cells slots Q (F0 m pc ls (.int i :: .ref (ad (a, k)) :: rest)) := by
  obtain ⟨q0, h1⟩ := wl_get (ad := ad) (g := ctt ad cy σ) hi
  exact va_zald hexec hb hK hP q0 2 (h1.trans (congrArg (fun z => some (ad (a, k), z)) (he _))) rfl hin hdg kk
theorem x_lald (hexec : p.tables.exec = Jvm.exec) (hb : c.code = cc) (hK : Kn D cy s) (hP : Wo D P ad cy σ H) {a k n : Nat} (hi : (a, k) ∈ P) (he : ∀ j, cel ad cy a k (σ.1 a k) j σ.2.2 = .inl (cy 1, n, .inr (.inl j))) {i : Int32} (hin : vp_in i n) (hdg : decode cc pc = .ok (.laload, 1))
    (kk : W p l e R s m args below meth c H locs cells slots Q (F0 m (pc + 1) ls (.long (σ.2.1 a k (ix i)) :: rest))) : W p l e R s m args below meth c H locs cells slots Q (F0 m pc ls (.int i :: .ref (ad (a, k)) :: rest)) := by
  obtain ⟨q0, h1⟩ := wl_get (ad := ad) (g := ctt ad cy σ) hi
  exact va_lald hexec hb hK hP q0 1 (h1.trans (congrArg (fun z => some (ad (a, k), z)) (he _))) rfl hin hdg kk
theorem x_iast (hexec : p.tables.exec = Jvm.exec) (hb : c.code = cc) (hK : Kn D cy s) (hP : Wo D P ad cy σ H) (hAd : AdOk P ad) (hS : va_S (Aof P ad) H0 H locs) {a k n : Nat} (hi : (a, k) ∈ P) (he : ∀ i, cel ad cy a k i (σ.2.1 a k) σ.2.2 = .inl (cy 0, n, .inl i)) {i v : Int32} (hin : vp_in i n) (hdg : decode cc pc = .ok (.iastore, 1))
    (kk : ∀ (H1 : Heap) (locs1 : List Loc), Wo D P ad cy (sI σ a k (ix i) v) H1 → va_S (Aof P ad) H0 H1 locs1 → W p l e R s m args below meth c H1 locs1 cells slots Q (F0 m (pc + 1) ls rest)) : W p l e R s m args below meth c H locs cells slots Q (F0 m pc ls (.int v :: .int i :: .ref (ad (a, k)) :: rest)) := by
  obtain ⟨q0, h1, h2⟩ := wl_at (ad := ad) (g := ctt ad cy σ) hAd.1 hi
  refine va_iast hexec hb hK hP (hAd.D _) hS q0 0 (h1.trans (congrArg (fun z => some (ad (a, k), z)) (he _))) rfl hin hdg (fun H1 locs1 g1 _ g3 => kk H1 locs1 ?_ g3)
  rw [h2, ← he, ctt_I] at g1
  exact g1
theorem x_zast (hexec : p.tables.exec = Jvm.exec) (hb : c.code = cc) (hK : Kn D cy s) (hP : Wo D P ad cy σ H) (hAd : AdOk P ad) (hS : va_S (Aof P ad) H0 H locs) {a k n : Nat} (hi : (a, k) ∈ P) (he : ∀ i, cel ad cy a k i (σ.2.1 a k) σ.2.2 = .inl (cy 2, n, .inl i)) {i v : Int32} (hin : vp_in i n) (hz : v = 0 ∨ v = 1) (hdg : decode cc pc = .ok (.bastore, 1))
    (kk : ∀ (H1 : Heap) (locs1 : List Loc), Wo D P ad cy (sI σ a k (ix i) v) H1 → va_S (Aof P ad) H0 H1 locs1 → W p l e R s m args below meth c H1 locs1 cells slots Q (F0 m (pc + 1) ls rest)) : W p l e R s m args below meth c H locs cells slots Q (F0 m pc ls (.int v :: .int i :: .ref (ad (a, k)) :: rest)) := by
  obtain ⟨q0, h1, h2⟩ := wl_at (ad := ad) (g := ctt ad cy σ) hAd.1 hi
  have hv : vp_nar .boolean v = v := by rcases hz with rfl | rfl <;> rfl
  refine va_zast hexec hb hK hP (hAd.D _) hS q0 2 (h1.trans (congrArg (fun z => some (ad (a, k), z)) (he _))) rfl hin hdg (fun H1 locs1 g1 _ g3 => kk H1 locs1 ?_ g3)
  rw [h2, hv, ← he, ctt_I] at g1
  exact g1
theorem x_last (hexec : p.tables.exec = Jvm.exec) (hb : c.code = cc) (hK : Kn D cy s) (hP : Wo D P ad cy σ H) (hAd : AdOk P ad) (hS : va_S (Aof P ad) H0 H locs) {a k n : Nat} (hi : (a, k) ∈ P) (he : ∀ j, cel ad cy a k (σ.1 a k) j σ.2.2 = .inl (cy 1, n, .inr (.inl j))) {i : Int32} {v : Int64} (hin : vp_in i n) (hdg : decode cc pc = .ok (.lastore, 1))
    (kk : ∀ (H1 : Heap) (locs1 : List Loc), Wo D P ad cy (sL σ a k (ix i) v) H1 → va_S (Aof P ad) H0 H1 locs1 → W p l e R s m args below meth c H1 locs1 cells slots Q (F0 m (pc + 1) ls rest)) : W p l e R s m args below meth c H locs cells slots Q (F0 m pc ls (.long v :: .int i :: .ref (ad (a, k)) :: rest)) := by
  obtain ⟨q0, h1, h2⟩ := wl_at (ad := ad) (g := ctt ad cy σ) hAd.1 hi
  refine va_last hexec hb hK hP (hAd.D _) hS q0 1 (h1.trans (congrArg (fun z => some (ad (a, k), z)) (he _))) rfl hin hdg (fun H1 locs1 g1 _ g3 => kk H1 locs1 ?_ g3)
  rw [h2, ← he, ctt_L] at g1
  exact g1
theorem x_alen (hexec : p.tables.exec = Jvm.exec) (hb : c.code = cc) (hK : Kn D cy s) (hP : Wo D P ad cy σ H) {a k t0 : Nat} {cA : ClassId} {x : vp_A} {ty : FieldType} (hi : (a, k) ∈ P) (he : cel ad cy a k (σ.1 a k) (σ.2.1 a k) σ.2.2 = .inl (cA, x)) (ht : (tysL cy)[t0]? = some (cA, ty)) {v : Int32} (hv : Int32.ofNat x.1 = v) (hdg : decode cc pc = .ok (.arraylength, 1))
    (kk : W p l e R s m args below meth c H locs cells slots Q (F0 m (pc + 1) ls (.int v :: rest))) : W p l e R s m args below meth c H locs cells slots Q (F0 m pc ls (.ref (ad (a, k)) :: rest)) := by
  obtain ⟨q0, h1⟩ := wl_get (ad := ad) (g := ctt ad cy σ) hi
  exact va_alen hexec hb hK hP q0 t0 (h1.trans (congrArg (fun z => some (ad (a, k), z)) he)) ht hv hdg kk
/-- all[i]: a node -/
theorem x_aldN (hC : InC P) (hexec : p.tables.exec = Jvm.exec) (hb : c.code = cc) (hK : Kn D cy s) (hP : Wo D P ad cy σ H) {i : Int32} (hin : vp_in i 6) (hdg : decode cc pc = .ok (.aaload, 1))
    (kk : W p l e R s m args below meth c H locs cells slots Q (F0 m (pc + 1) ls (.ref (ad (5, ix i)) :: rest))) : W p l e R s m args below meth c H locs cells slots Q (F0 m pc ls (.int i :: .ref (ad (1, 0)) :: rest)) := by
  obtain ⟨q0, h1⟩ := wl_get (ad := ad) (g := ctt ad cy σ) (i := (1, 0)) (in1 hC (by decide) (by decide))
  exact va_aldq (C := "PageOwners$Node") (n := 6) (f := fun q => some (ad (5, q))) hexec hb hK hP q0 4 h1 rfl hin hdg kk
/-- row[i]: a letter -/
theorem x_aldL (hC : InC P) (hexec : p.tables.exec = Jvm.exec) (hb : c.code = cc) (hK : Kn D cy s) (hP : Wo D P ad cy σ H) {i : Int32} (hin : vp_in i 32) (hdg : decode cc pc = .ok (.aaload, 1))
    (kk : W p l e R s m args below meth c H locs cells slots Q (F0 m (pc + 1) ls (.ref (ad (15, σ.2.2 (ix i))) :: rest))) : W p l e R s m args below meth c H locs cells slots Q (F0 m pc ls (.int i :: .ref (ad (4, 0)) :: rest)) := by
  obtain ⟨q0, h1⟩ := wl_get (ad := ad) (g := ctt ad cy σ) (i := (4, 0)) (in1 hC (by decide) (by decide))
  exact va_aldq (C := "PageOwners$Letter") (n := 32) (f := fun q => some (ad (15, σ.2.2 q))) hexec hb hK hP q0 3 h1 rfl hin hdg kk
/-- row[i] = a letter -/
theorem x_astL (hC : InC P) (hexec : p.tables.exec = Jvm.exec) (hb : c.code = cc) (hK : Kn D cy s) (hP : Wo D P ad cy σ H) (hAd : AdOk P ad) (hS : va_S (Aof P ad) H0 H locs) {x : Nat} (hx : x < 32) {i : Int32} (hin : vp_in i 32) (hdg : decode cc pc = .ok (.aastore, 1))
    (kk : ∀ (H1 : Heap) (locs1 : List Loc), Wo D P ad cy (sR σ (ix i) x) H1 → va_S (Aof P ad) H0 H1 locs1 → W p l e R s m args below meth c H1 locs1 cells slots Q (F0 m (pc + 1) ls rest)) : W p l e R s m args below meth c H locs cells slots Q (F0 m pc ls (.ref (ad (15, x)) :: .int i :: .ref (ad (4, 0)) :: rest)) := by
  obtain ⟨q0, h1, h2⟩ := wl_at (ad := ad) (g := ctt ad cy σ) (i := (4, 0)) hAd.1 (in1 hC (by decide) (by decide))
  obtain ⟨qk, h3⟩ := wl_get (ad := ad) (g := ctt ad cy σ) (i := (15, x)) (in32 hC (by decide) hx)
  refine va_astq (r := (RX1, TX1, 7)) (n := 32) (f := fun q => some (ad (15, σ.2.2 q))) hexec hb hK hP (hAd.D _) hS q0 3 qk 1 h1 rfl h3 rfl hin hdg (fun H1 locs1 g1 _ g3 => kk H1 locs1 ?_ g3)
  rw [h2, ctt_R hAd.2.1] at g1
  exact g1
/-- System.arraycopy of longs -/
theorem x_copy (hexec : p.tables.exec = Jvm.exec) (hb : c.code = cc) (hml : c.maxLocals = ls.size) {own : String} {index : Nat} (hown : s.vm.findClass own = some m.cls) (hlink : (Cond.methodLink own index arraycopyName).before args s = true) (hnat : (Cond.native arraycopyName).before args s = true) (hstat : (Cond.static arraycopyName).before args s = true) (hini : (Cond.initialized "java/lang/System").before args s = true)
    (hK : Kn D cy s) (hP : Wo D P ad cy σ H) (hAd : AdOk P ad) (hS : va_S (Aof P ad) H0 H locs) {a k b h n0 n1 : Nat} (hi : (a, k) ∈ P) (hj : (b, h) ∈ P) (he : ∀ j, cel ad cy a k (σ.1 a k) j σ.2.2 = .inl (cy 1, n0, .inr (.inl j))) (hg : ∀ j, cel ad cy b h (σ.1 b h) j σ.2.2 = .inl (cy 1, n1, .inr (.inl j)))
    {sp dp n : Int32} (h1 : ¬ sp < 0) (h2 : ¬ dp < 0) (h3 : ¬ n < 0) (h4 : ix sp + ix n ≤ n0) (h5 : ix dp + ix n ≤ n1)
    (hframes : 1 ≤ R.frames) (hlocals : (rest.map fun v => v.category).sum + (nativeFrameWords "java/lang/System" "arraycopy" 5 + 11) ≤ R.locals) (hdg : decode cc pc = .ok (.invokestatic index, 3))
    (kk : ∀ (H1 : Heap) (locs1 : List Loc), Wo D P ad cy (sC σ a k (ix sp) b h (ix dp) (ix n)) H1 → va_S (Aof P ad) H0 H1 locs1 → W p l e R s m args below meth c H1 locs1 cells slots Q (F0 m (pc + 3) ls rest)) : W p l e R s m args below meth c H locs cells slots Q (F0 m pc ls (.int n :: .int dp :: .ref (ad (b, h)) :: .int sp :: .ref (ad (a, k)) :: rest)) := by
  obtain ⟨q0, g1⟩ := wl_get (ad := ad) (g := ctt ad cy σ) hi
  obtain ⟨q1, g2, g3⟩ := wl_at (ad := ad) (g := ctt ad cy σ) hAd.1 hj
  refine va_copyl hexec hb hml hown hlink hnat hstat hini hK hP (hAd.D _) hS q0 q1 1 1 (g1.trans (congrArg (fun z => some (ad (a, k), z)) (he _))) (g2.trans (congrArg (fun z => some (ad (b, h), z)) (hg _))) rfl rfl rfl h1 h2 h3 h4 h5 (fun i _ => rfl) hframes hlocals hdg (fun H1 locs1 w1 _ w3 => kk H1 locs1 ?_ w3)
  rw [g3, ← hg, ctt_C] at w1
  exact w1
theorem x_recv (hK : Kn D cy s) (hP : Wo D P ad cy σ H) {a k ci : Nat} {q : vw_C} {fs : List Value} (hi : (a, k) ∈ P) (he : cel ad cy a k (σ.1 a k) (σ.2.1 a k) σ.2.2 = .inr (ci, fs)) (hc : vwCl[ci]? = some q) : ∃ cell : Cell, H[ad (a, k)]? = some cell ∧ cell.vm.isStatics = false ∧ s.vm.findClass q.1 = some cell.cls := by
  obtain ⟨q0, h1⟩ := wl_get (ad := ad) (g := ctt ad cy σ) hi
  exact va_recv hK hP hc (h1.trans (congrArg (fun z => some (ad (a, k), z)) he))
abbrev xPc (D : va_G) (P : List (Nat × Nat)) (ad : Nat × Nat → Nat) (cy : Nat → ClassId) (σ : Sg) (av : List Value) : Array Value → State → Prop := va_Pc av (fun U => Wo D P ad cy σ U.heap ∧ Kn D cy U)
abbrev xB (D : va_G) (P : List (Nat × Nat)) (ad : Nat × Nat → Nat) (cy : Nat → ClassId) : Sg → State → Prop := fun σ' t => Wo D P ad cy σ' t.heap ∧ Kn D cy t
theorem x_blind (av : List Value) : FrameBlind (xPc D P ad cy σ av) := fun a U g mk q => ⟨q.1, q.2.1, va_K.moved (u := U) (U := U.calling g mk a) (Vm.Alike.refl U.vm) q.2.2⟩
theorem x_pre (hK : Kn D cy s) (hP : Wo D P ad cy σ H) (av : List Value) : ∀ U : State, U.heap = H → s.WarmedH U.vm → xPc D P ad cy σ av av.toArray U := fun U hU hW => ⟨rfl, by rw [hU]; exact hP, va_K.moved hW.alike hK⟩
variable {y : MethodName} {ws : List Cond} {rm : Room} {bytes : ByteArray} {maxL nL n index : Nat} {ret : Option FieldType} {Ts : List Cond} {own C : String} {b : Addr} {As st : List Value}
theorem x_cVi {Qp : Sg → Int32 → Prop} (S : CallFix p m c cc nL s args Ts own) (hK : Kn D cy s) (hP : Wo D P ad cy σ H) (hS : va_S (Aof P ad) H0 H locs) (hM : Met l y ws rm (xPc D P ad cy σ (.ref b :: As)) (va_Qi (fun r σ' => Qp σ' r) (xB D P ad cy) (Aof P ad)) 0 0 (Aof P ad)) (cw : CallW R s args own C index y bytes maxL ret ws rm 0 0 n) (hrecv : ∃ cell : Cell, H[b]? = some cell ∧ cell.vm.isStatics = false ∧ s.vm.findClass C = some cell.cls) (hn : As.length = n) (hsize : ls.size = nL) (hst : st = As.reverse ++ .ref b :: rest) (hW : (rest.map fun v => v.category).sum ≤ 8) (hdg : decode cc pc = .ok (.invokevirtual index, 3)) (hf : cells ≤ R.cells ∧ slots ≤ R.slots)
    (kk : ∀ (r : Int32) (σ1 : Sg) (H1 : Heap) (locs1 : List Loc), Qp σ1 r → Wo D P ad cy σ1 H1 → va_S (Aof P ad) H0 H1 locs1 → W p l e R s m args below meth c H1 locs1 cells slots Q (F0 m (pc + 3) ls (.int r :: rest))) : W p l e R s m args below meth c H locs cells slots Q (F0 m pc ls st) :=
  va_calli (va_runV S hM cw ⟨x_blind _, hrecv, x_pre hK hP _⟩ rfl hn hsize hst (lv_room hW) hdg hf) hS (fun _ _ h => h) (fun _ h => h) (fun r u t H1 locs1 ht _ hw hB _ _ hS1 => kk r u H1 locs1 hw (by rw [← ht]; exact hB.1) hS1)
theorem x_cVl {Qp : Sg → Int64 → Prop} (S : CallFix p m c cc nL s args Ts own) (hK : Kn D cy s) (hP : Wo D P ad cy σ H) (hS : va_S (Aof P ad) H0 H locs) (hM : Met l y ws rm (xPc D P ad cy σ (.ref b :: As)) (va_Ql (fun r σ' => Qp σ' r) (xB D P ad cy) (Aof P ad)) 0 0 (Aof P ad)) (cw : CallW R s args own C index y bytes maxL ret ws rm 0 0 n) (hrecv : ∃ cell : Cell, H[b]? = some cell ∧ cell.vm.isStatics = false ∧ s.vm.findClass C = some cell.cls) (hn : As.length = n) (hsize : ls.size = nL) (hst : st = As.reverse ++ .ref b :: rest) (hW : (rest.map fun v => v.category).sum ≤ 8) (hdg : decode cc pc = .ok (.invokevirtual index, 3)) (hf : cells ≤ R.cells ∧ slots ≤ R.slots)
    (kk : ∀ (r : Int64) (σ1 : Sg) (H1 : Heap) (locs1 : List Loc), Qp σ1 r → Wo D P ad cy σ1 H1 → va_S (Aof P ad) H0 H1 locs1 → W p l e R s m args below meth c H1 locs1 cells slots Q (F0 m (pc + 3) ls (.long r :: rest))) : W p l e R s m args below meth c H locs cells slots Q (F0 m pc ls st) :=
  va_calll (va_runV S hM cw ⟨x_blind _, hrecv, x_pre hK hP _⟩ rfl hn hsize hst (lv_room hW) hdg hf) hS (fun _ _ h => h) (fun _ h => h) (fun r u t H1 locs1 ht _ hw hB _ _ hS1 => kk r u H1 locs1 hw (by rw [← ht]; exact hB.1) hS1)
theorem x_cVv {Qp : Sg → Prop} (S : CallFix p m c cc nL s args Ts own) (hK : Kn D cy s) (hP : Wo D P ad cy σ H) (hS : va_S (Aof P ad) H0 H locs) (hM : Met l y ws rm (xPc D P ad cy σ (.ref b :: As)) (va_Qv Qp (xB D P ad cy) (Aof P ad)) 0 0 (Aof P ad)) (cw : CallW R s args own C index y bytes maxL ret ws rm 0 0 n) (hrecv : ∃ cell : Cell, H[b]? = some cell ∧ cell.vm.isStatics = false ∧ s.vm.findClass C = some cell.cls) (hn : As.length = n) (hsize : ls.size = nL) (hst : st = As.reverse ++ .ref b :: rest) (hW : (rest.map fun v => v.category).sum ≤ 8) (hdg : decode cc pc = .ok (.invokevirtual index, 3)) (hf : cells ≤ R.cells ∧ slots ≤ R.slots)
    (kk : ∀ (σ1 : Sg) (H1 : Heap) (locs1 : List Loc), Qp σ1 → Wo D P ad cy σ1 H1 → va_S (Aof P ad) H0 H1 locs1 → W p l e R s m args below meth c H1 locs1 cells slots Q (F0 m (pc + 3) ls rest)) : W p l e R s m args below meth c H locs cells slots Q (F0 m pc ls st) :=
  va_callv (va_runV S hM cw ⟨x_blind _, hrecv, x_pre hK hP _⟩ rfl hn hsize hst (lv_room hW) hdg hf) hS (fun _ _ h => h) (fun _ h => h) (fun u t H1 locs1 ht _ hw hB _ _ hS1 => kk u H1 locs1 hw (by rw [← ht]; exact hB.1) hS1)
/-- a call whose answer is a letter: its number x comes with the state -/
abbrev xBr (D : va_G) (P : List (Nat × Nat)) (ad : Nat × Nat → Nat) (cy : Nat → ClassId) : Sg × Nat → Nat → State → Prop := fun u q t => q = ad (15, u.2) ∧ Wo D P ad cy u.1 t.heap ∧ Kn D cy t
theorem x_cVr {Qp : Sg → Nat → Prop} (S : CallFix p m c cc nL s args Ts own) (hK : Kn D cy s) (hP : Wo D P ad cy σ H) (hS : va_S (Aof P ad) H0 H locs) (hM : Met l y ws rm (xPc D P ad cy σ (.ref b :: As)) (va_Qr (fun u => u.2 < 32 ∧ Qp u.1 u.2) (xBr D P ad cy) (Aof P ad)) 0 0 (Aof P ad)) (cw : CallW R s args own C index y bytes maxL ret ws rm 0 0 n) (hrecv : ∃ cell : Cell, H[b]? = some cell ∧ cell.vm.isStatics = false ∧ s.vm.findClass C = some cell.cls) (hn : As.length = n) (hsize : ls.size = nL) (hst : st = As.reverse ++ .ref b :: rest) (hW : (rest.map fun v => v.category).sum ≤ 8) (hdg : decode cc pc = .ok (.invokevirtual index, 3)) (hf : cells ≤ R.cells ∧ slots ≤ R.slots)
    (kk : ∀ (r : Nat) (σ1 : Sg) (H1 : Heap) (locs1 : List Loc), r < 32 → Qp σ1 r → Wo D P ad cy σ1 H1 → va_S (Aof P ad) H0 H1 locs1 → W p l e R s m args below meth c H1 locs1 cells slots Q (F0 m (pc + 3) ls (.ref (ad (15, r)) :: rest))) : W p l e R s m args below meth c H locs cells slots Q (F0 m pc ls st) :=
  va_callr (va_runV S hM cw ⟨x_blind _, hrecv, x_pre hK hP _⟩ rfl hn hsize hst (lv_room hW) hdg hf) hS (fun _ _ h => h) (fun _ h => h) (fun u ra t H1 locs1 ht _ hw hB _ _ hS1 => by
    obtain ⟨e1, e2, -⟩ := hB
    rw [e1]
    exact kk u.2 u.1 H1 locs1 hw.1 hw.2 (by rw [← ht]; exact e2) hS1)
theorem x_cSi {Qp : Sg → Int32 → Prop} (S : CallFix p m c cc nL s args Ts own) (hK : Kn D cy s) (hP : Wo D P ad cy σ H) (hS : va_S (Aof P ad) H0 H locs) (hM : Met l y ws rm (xPc D P ad cy σ As) (va_Qi (fun r σ' => Qp σ' r) (xB D P ad cy) (Aof P ad)) 0 0 (Aof P ad)) (cw : CallB R s args own index y bytes maxL ret ws rm 0 0 n ∧ (Cond.static y).before args s = true) (hn : As.length = n) (hsize : ls.size = nL) (hst : st = As.reverse ++ rest) (hW : (rest.map fun v => v.category).sum ≤ 8) (hdg : decode cc pc = .ok (.invokestatic index, 3)) (hf : cells ≤ R.cells ∧ slots ≤ R.slots)
    (kk : ∀ (r : Int32) (σ1 : Sg) (H1 : Heap) (locs1 : List Loc), Qp σ1 r → Wo D P ad cy σ1 H1 → va_S (Aof P ad) H0 H1 locs1 → W p l e R s m args below meth c H1 locs1 cells slots Q (F0 m (pc + 3) ls (.int r :: rest))) : W p l e R s m args below meth c H locs cells slots Q (F0 m pc ls st) :=
  va_calli (va_runS S hM cw ⟨x_blind _, x_pre hK hP _⟩ rfl hn hsize hst (lv_room hW) hdg hf) hS (fun _ _ h => h) (fun _ h => h) (fun r u t H1 locs1 ht _ hw hB _ _ hS1 => kk r u H1 locs1 hw (by rw [← ht]; exact hB.1) hS1)
theorem x_cSv {Qp : Sg → Prop} (S : CallFix p m c cc nL s args Ts own) (hK : Kn D cy s) (hP : Wo D P ad cy σ H) (hS : va_S (Aof P ad) H0 H locs) (hM : Met l y ws rm (xPc D P ad cy σ As) (va_Qv Qp (xB D P ad cy) (Aof P ad)) 0 0 (Aof P ad)) (cw : CallB R s args own index y bytes maxL ret ws rm 0 0 n ∧ (Cond.static y).before args s = true) (hn : As.length = n) (hsize : ls.size = nL) (hst : st = As.reverse ++ rest) (hW : (rest.map fun v => v.category).sum ≤ 8) (hdg : decode cc pc = .ok (.invokestatic index, 3)) (hf : cells ≤ R.cells ∧ slots ≤ R.slots)
    (kk : ∀ (σ1 : Sg) (H1 : Heap) (locs1 : List Loc), Qp σ1 → Wo D P ad cy σ1 H1 → va_S (Aof P ad) H0 H1 locs1 → W p l e R s m args below meth c H1 locs1 cells slots Q (F0 m (pc + 3) ls rest)) : W p l e R s m args below meth c H locs cells slots Q (F0 m pc ls st) :=
  va_callv (va_runS S hM cw ⟨x_blind _, x_pre hK hP _⟩ rfl hn hsize hst (lv_room hW) hdg hf) hS (fun _ _ h => h) (fun _ h => h) (fun u t H1 locs1 ht _ hw hB _ _ hS1 => kk u H1 locs1 hw (by rw [← ht]; exact hB.1) hS1)
end XR
