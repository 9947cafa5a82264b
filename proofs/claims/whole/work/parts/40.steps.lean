/-! PURE: every step of the script -/
theorem RM.mv {b : Bool} {κ τ σ σ1 : Sg} {ls : List Lt} {qs : Qu} (h : RM b κ τ ls qs σ) (e : EqM false σ σ1) : RM false σ1 τ ls qs σ1 := by
  have f : ∀ a, 20 ≤ a → σ1.1 a = σ.1 a := fun a ha => (e a (Or.inl ha)).1
  have g : ∀ a, 20 ≤ a → σ1.2.1 a = σ.2.1 a := fun a ha => (e a (Or.inl ha)).2
  exact ⟨⟨fun _ _ => ⟨rfl, rfl⟩, rfl⟩, h.2.1.o (f _ (by decide)) (f _ (by decide)) (f _ (by decide)) (f _ (by decide)) rfl rfl rfl rfl, h.2.2.1.o (g _ (by decide)) rfl, h.2.2.2.1.o (f _ (by decide)) (f _ (by decide)) (f _ (by decide)) (f _ (by decide)) (f _ (by decide)) (f _ (by decide)) (f _ (by decide)) (f _ (by decide)) (g _ (by decide)) (g _ (by decide)) rfl rfl, h.2.2.2.2.1.o (by rw [f 20 (by decide)]) (f _ (by decide)) rfl rfl, h.2.2.2.2.2.1.o (by rw [f 20 (by decide)]) (f _ (by decide)) (g _ (by decide)), h.2.2.2.2.2.2.o (f _ (by decide)) (f _ (by decide))⟩
theorem RC.mv {b : Bool} {μ τ σ σ1 : Sg} {ls : List Lt} {qs : Qu} (h : RC b μ τ ls qs σ) (e : EqC false σ σ1) : RC false σ1 τ ls qs σ1 := by
  have f : ∀ a, a < 20 → σ1.1 a = σ.1 a := fun a ha => (e.1 a (Or.inl ha)).1
  have g : ∀ a, a < 20 → σ1.2.1 a = σ.2.1 a := fun a ha => (e.1 a (Or.inl ha)).2
  obtain ⟨h1, h2, h3, h4, h5, h6⟩ := h
  refine ⟨fun _ _ => ⟨rfl, rfl⟩, fun a ha => ?_, fun k hk => ?_, ⟨⟨rfl, rfl⟩, ?_⟩, ⟨h5.1, ?_, fun j l hj => ?_⟩, fun k p hk hp => ?_⟩
  · have : a < 20 := by unfold sk at ha; omega
    rw [f a this, g a this]
    exact h2 a ha
  · rw [f 5 (by decide)]; exact h3 k hk
  · rw [e.2]; exact h4.2
  · rw [f 3 (by decide)]; exact h5.2.1
  · have := h5.2.2 j l hj
    unfold VL at this ⊢
    rw [e.2, f 15 (by decide), g 16 (by decide)]
    exact this
  · rw [f 12 (by decide), f 13 (by decide), f 14 (by decide)]
    exact h6 k p hk hp
theorem Al.mk' {N pp : Nat} {b b' : Bool} {ν σ1 σ2 : Sg} {s : St} (hc : RCs b ν s σ1) (hm : RMs b' σ1 s σ2) (hi : Inv N s pp []) (hs : Sd s) : Al N s.1 s.2.1 s.2.2 σ2 := ⟨hc.mv hm.1.weak, hm.self false, hi.pp 0, hs⟩
theorem s_begin {N : Nat} {τ σ : Sg} {ls : List Lt} {qs : Qu} (h : Al N τ ls qs σ) {x1 : Int32} {V : Prop} {K : Sg → Prop} (hV : V) (hK : ∀ N' τ' ls' qs' σ', Al N' τ' ls' qs' σ' → K σ') : wp_X4_begin σ x1 (fun σ1 r1 => V ∧ wp_X5_begin σ1 x1 (fun σ2 r2 => (r1 = r2 → K σ2) ∧ (¬ (r1 = r2) → False))) := by
  unfold wp_X4_begin
  refine ⟨fun c => ⟨hV, ?_⟩, fun c => ⟨fun c2 => ?_, fun c2 => ⟨hV, ?_⟩⟩⟩
  · exact ⟨fun _ => eqK rfl (hK _ _ _ _ _ h), fun z => absurd c z⟩
  · have h0 : ¬ x1 < 0 := fun z => c (by
      rw [Int32.lt_iff_toInt_lt] at z ⊢
      have : (0 : Int32).toInt = 0 := rfl
      have : (2 : Int32).toInt = 2 := rfl
      omega)
    obtain ⟨j, hj, rfl⟩ := nI_of h0
    have j2 : 2 ≤ j := by
      rw [Int32.lt_iff_toInt_lt, nI_toInt hj, show (2 : Int32).toInt = 2 from rfl] at c
      omega
    have j6 : j ≤ 6 := by
      rw [Int32.le_iff_toInt_le, nI_toInt hj, show (6 : Int32).toInt = 6 from rfl] at c2
      omega
    refine C_start j2 j6 h.1.2.2.1 _ (fun σ1 hE hr hVN hI => ⟨hV, ?_⟩)
    refine M_begin j2 j6 _ (fun σ2 hE2 hM => eqK rfl (hK j σ1 [] noQ σ2 ⟨?_, MIni.rm j2 hI hM, Ini.inv j2 j6 hI, ?_⟩))
    · exact (Ini.rc hI hVN (by rw [hr]; exact h.1.2.2.2.1.2)).mv hE2
    · exact ⟨by show σ1.1 2 0 0 = σ1.1 0 0 3; rw [hI.2.2.2.1, hI.1], fun l hl => by simp at hl⟩
  · exact ⟨fun z => absurd z c, fun _ => ⟨fun z => absurd z c2, fun _ => eqK rfl (hK _ _ _ _ _ h)⟩⟩
theorem Sd.tf {τ : Sg} {ls : List Lt} {qs : Qu} (h : Sd (τ, ls, qs)) {k : Nat} {x1 x2 x3 : Int32} {x4 : Int64} : Sd (aCnt (aFin (aTake τ k x1 x2 x3 x4) k) 7, ls, qs) :=
  h.of (by show (aCnt (aFin (aTake τ k x1 x2 x3 x4) k) 7).1 2 0 0 = τ.1 2 0 0; rw [aCnt_2 (by decide), aFin_2.1, aTake_c.1]) (by show (aCnt (aFin (aTake τ k x1 x2 x3 x4) k) 7).1 0 0 3 = τ.1 0 0 3; rw [aCnt_k (by decide), aFin_2.2, aTake_c.2]) (fun l hl => Or.inl hl)
theorem Sd.tk {τ : Sg} {ls : List Lt} {qs : Qu} (h : Sd (τ, ls, qs)) {k : Nat} {x1 x2 x3 : Int32} {x4 : Int64} : Sd (aTake τ k x1 x2 x3 x4, ls, qs) := h.of aTake_c.1 aTake_c.2 (fun l hl => Or.inl hl)
theorem Sd.i {τ : Sg} {ls : List Lt} {qs : Qu} (h : Sd (τ, ls, qs)) {a k f : Nat} {v : Int32} (h0 : a ≠ 0) (h2 : a ≠ 2) : Sd (sI τ a k f v, ls, qs) := h.of (sI_2 h2) (sI_0 h0) (fun l hl => Or.inl hl)
theorem Sd.cn {τ : Sg} {ls : List Lt} {qs : Qu} (h : Sd (τ, ls, qs)) {c : Nat} (hc : c ≠ 0) : Sd (aCnt τ c, ls, qs) := h.of (aCnt_2 hc) (by show (aCnt τ c).1 0 0 3 = τ.1 0 0 3; rw [aCnt_k (by decide)]) (fun l hl => Or.inl hl)
theorem s_read {N : Nat} {τ σ : Sg} {ls : List Lt} {qs : Qu} (h : Al N τ ls qs σ) {x1 x2 x3 : Int32} {V V2 V3 : Prop} {K : Sg → Prop} (hV : V) (hV2 : V2) (hV3 : V3) (hK : ∀ N' τ' ls' qs' σ', Al N' τ' ls' qs' σ' → K σ') : wp_X4_read σ x1 x2 x3 (fun σ1 r1 => V ∧ (V2 ∧ (V3 ∧ wp_X5_read σ1 x1 x2 x3 (fun σ2 r2 => (r1 = r2 → K σ2) ∧ (¬ (r1 = r2) → False))))) := by
  obtain ⟨hc, hm, hi, hs⟩ := id h
  refine C_read hc hi _ (fun no => ⟨hV, hV2, hV3, ?_⟩) (fun k p w hk hp hw e1 e2 e3 hwt c σ1 hr => ⟨hV, hV2, hV3, ?_⟩) (fun k p w hk hp hw e1 e2 e3 hwt c σ1 hr => ⟨hV, hV2, hV3, ?_⟩)
  · exact M_askN hm hi no _ (eqK rfl (hK _ _ _ _ _ h))
  · subst e1 e2 e3
    have hN6 := hi.1.1.2.1
    refine M_askG (hm.mv hr.1) hi hk hp hw hwt (Or.inl rfl) _ (fun _ _ σ2 h2 => eqK rfl (hK _ _ _ _ _ (Al.mk' hr h2 (I_an hi hk hp hw hwt (Or.inl rfl) (fun _ => ?_)) ((hs.tk).i (by decide) (by decide)).send))) (fun z => ?_) (fun z => absurd z (by decide)) (fun z => absurd z (by decide)) (fun z => absurd z (by decide))
    · rcases (hi.1.2.2 k p (by omega) hp).2.1 with z | z
      · exact z
      · exact absurd c (hi.2.2.1.1 k p (by omega) hp z (fun y => by have := y.1; simp only at this; omega))
    · rcases z with z | z
      · exact absurd c z.2
      · exact absurd z.1 (by decide)
  · subst e1 e2 e3
    exact M_askG (hm.mv hr.1) hi hk hp hw hwt (Or.inl rfl) _ (fun _ z => absurd z c) (fun _ σ2 h2 => eqK rfl (hK _ _ _ _ _ (Al.mk' hr h2 (I_tf hi hk hp hw hwt) hs.tf))) (fun z => absurd z (by decide)) (fun z => absurd z (by decide)) (fun z => absurd z (by decide))
theorem s_write {N : Nat} {τ σ : Sg} {ls : List Lt} {qs : Qu} (h : Al N τ ls qs σ) {x1 x2 x3 : Int32} {v : Int64} {V V2 V3 V4 V5 : Prop} {K : Sg → Prop} (hV : V) (hV2 : V2) (hV3 : V3) (hV4 : V4) (hV5 : V5) (hK : ∀ N' τ' ls' qs' σ', Al N' τ' ls' qs' σ' → K σ') : wp_X4_write σ x1 x2 x3 v (fun σ1 r1 => V ∧ (V2 ∧ (V3 ∧ (V4 ∧ (V5 ∧ wp_X5_write σ1 x1 x2 x3 v (fun σ2 r2 => (r1 = r2 → K σ2) ∧ (¬ (r1 = r2) → False))))))) := by
  obtain ⟨hc, hm, hi, hs⟩ := id h
  have hN6 := hi.1.1.2.1
  refine C_write hc hi _ (fun no => ⟨hV, hV2, hV3, hV4, hV5, ?_⟩) (fun k p w hk hp hw e1 e2 e3 hwt c σ1 hr => ⟨hV, hV2, hV3, hV4, hV5, ?_⟩) (fun k p w hk hp hw e1 e2 e3 hwt c c8 σ1 hr => ⟨hV, hV2, hV3, hV4, hV5, ?_⟩) (fun k p w hk hp hw e1 e2 e3 hwt c c8 cb σ1 hr => ⟨hV, hV2, hV3, hV4, hV5, ?_⟩) (fun k p w hk hp hw e1 e2 e3 hwt c c8 cb σ1 hr => ⟨hV, hV2, hV3, hV4, hV5, ?_⟩)
  · exact M_askN hm hi no _ (eqK rfl (hK _ _ _ _ _ h))
  · subst e1 e2 e3
    exact M_askG (hm.mv hr.1) hi hk hp hw hwt (Or.inr rfl) _ (fun z => absurd z (by decide)) (fun _ σ2 h2 => eqK rfl (hK _ _ _ _ _ (Al.mk' hr h2 (I_tf hi hk hp hw hwt) hs.tf))) (fun _ z => absurd c z) (fun _ z => absurd c z) (fun _ z => absurd c z)
  · subst e1 e2 e3
    refine M_askG (hm.mv hr.1) hi hk hp hw hwt (Or.inr rfl) _ (fun z => absurd z (by decide)) (fun z => ?_) (fun _ _ _ σ2 h2 => eqK rfl (hK _ _ _ _ _ (Al.mk' hr h2 (I_an hi hk hp hw hwt (Or.inr rfl) (fun z => absurd z (by decide))) ((hs.tk).i (by decide) (by decide)).send))) (fun _ _ z => ?_) (fun _ _ z => ?_)
    · rcases z with z | z
      · exact absurd z.1 (by decide)
      · exact absurd z.2 c
    · rw [c8] at z; exact absurd z (by decide)
    · rw [c8] at z; exact absurd z (by decide)
  · subst e1 e2 e3
    have e10 : (aTake τ k (nI p) (nI w) 1 v).1 10 k p = τ.1 10 k p := by rw [aTake_k (by decide)]
    have hq : qs k p = [] := qs_w hi.2.1 (by omega) (by rw [hwt]; omega) p hp
    have hI := I_fia (I_cl (x3 := 1) (x4 := v) hi hk hp hw hwt c8) hk hp (by rw [aCall_pg]; exact aTake_pg hp)
    rw [aFia_0 aTake_66 (by show cntb ((aTake τ k (nI p) (nI w) 1 v).1 10 k p) N = 0; rw [e10]; exact cb), aGo_nil hq] at hI
    have hS : Sd (aCall (aTake τ k (nI p) (nI w) 1 v, ls, qs) k p N) := Sd.call hs.tk
    refine M_askG (hm.mv hr.1) hi hk hp hw hwt (Or.inr rfl) _ (fun z => absurd z (by decide)) (fun z => ?_) (fun _ _ z => ?_) (fun _ _ _ _ σ2 h2 => eqK rfl (hK _ _ _ _ _ (Al.mk' hr h2 (Inv.c2 hI (fun b hb => aCnt_k hb)) ?_))) (fun _ _ _ z => absurd cb z)
    · rcases z with z | z
      · exact absurd z.1 (by decide)
      · exact absurd z.2 c
    · rw [c8] at z; exact absurd z (by decide)
    · exact Sd.cn (Sd.fin (qs := qs) (hS.of rfl rfl (fun l hl => Or.inl hl))) (by decide)
  · subst e1 e2 e3
    refine M_askG (hm.mv hr.1) hi hk hp hw hwt (Or.inr rfl) _ (fun z => absurd z (by decide)) (fun z => ?_) (fun _ _ z => ?_) (fun _ _ _ z => absurd z cb) (fun _ _ _ _ σ2 h2 => eqK rfl (hK _ _ _ _ _ (Al.mk' hr h2 (I_cl hi hk hp hw hwt c8) (Sd.call hs.tk))))
    · rcases z with z | z
      · exact absurd z.1 (by decide)
      · exact absurd z.2 c
    · rw [c8] at z; exact absurd z (by decide)
theorem s_deliver {N : Nat} {τ σ : Sg} {ls : List Lt} {qs : Qu} (h : Al N τ ls qs σ) {x1 : Int32} {V : Prop} {K : Sg → Prop} (hV : V) (hK : ∀ N' τ' ls' qs' σ', Al N' τ' ls' qs' σ' → K σ') : wp_X4_deliver σ x1 (fun σ1 r1 => V ∧ wp_X5_deliver σ1 x1 (fun σ2 r2 => (r1 = r2 → K σ2) ∧ (¬ (r1 = r2) → False))) := by
  obtain ⟨hc, hm, hi, hs⟩ := id h
  refine C_deliver hc hi _ (fun no => ⟨hV, ?_⟩) (fun i l e hl ν σ1 hE hr => ⟨hV, ?_⟩)
  · exact M_delN hm no _ (eqK rfl (hK _ _ _ _ _ h))
  · subst e
    exact M_deliver (hm.mv hE) hi hl _ (fun σ2 h2 => eqK rfl (hK _ _ _ _ _ (Al.mk' hr h2 (I_del hi hl) (Sd.del (Sd.of (s1 := (τ, ls.eraseIdx i, qs)) hs rfl rfl (fun l' hl' => Or.inl (List.mem_of_mem_eraseIdx hl')))))))
theorem subL {L i : Nat} (hL : L ≤ 3072) (hi : i ≤ 3072) : ((Int32.ofNat L) - 6 < nI i) ↔ L < i + 6 := by
  have e : ((Int32.ofNat L) - 6).toInt = (L : Int) - 6 := by
    rw [Int32.toInt_sub, show (Int32.ofNat L).toInt = (L : Int) from nI_toInt (n := L) (by omega), show (6 : Int32).toInt = 6 from rfl]
    simp only [Int.bmod]
    split <;> omega
  rw [Int32.lt_iff_toInt_lt, e, nI_toInt (by omega)]
  omega
