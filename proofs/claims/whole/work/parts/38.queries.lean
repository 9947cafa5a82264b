/-! PURE: the queries -/
def Al (N : Nat) (τ : Sg) (ls : List Lt) (qs : Qu) (σ : Sg) : Prop := RC false σ τ ls qs σ ∧ RM false σ τ ls qs σ ∧ Inv N (τ, ls, qs) 0 [] ∧ Sd (τ, ls, qs)
theorem eqK {a b : Int32} {K : Prop} (e : a = b) (hK : K) : (a = b → K) ∧ (¬ (a = b) → False) := ⟨fun _ => hK, fun z => z e⟩
theorem eqL {a b : Int64} {K : Prop} (e : a = b) (hK : K) : (lg_cmp a b = 0 → K) ∧ (¬ (lg_cmp a b = 0) → False) := ⟨fun _ => hK, fun z => z ((lg_cmp_eq a b).mpr e)⟩
theorem Al.n {N : Nat} {τ σ : Sg} {ls : List Lt} {qs : Qu} (h : Al N τ ls qs σ) : (2 ≤ N ∧ N ≤ 6) ∧ σ.1 0 0 3 = nI N ∧ σ.1 20 0 0 = nI N := by
  obtain ⟨a, b, c⟩ := h.2.2.1.1.1
  exact ⟨⟨a, b⟩, by rw [h.1.2.1.a0]; exact c, by rw [h.2.1.2.2.2.2.1.1]; exact c⟩
theorem q_waits {N : Nat} {τ σ : Sg} {ls : List Lt} {qs : Qu} (h : Al N τ ls qs σ) {x1 : Int32} {V : Prop} {K : Sg → Prop} (hV : V) (hK : K σ) : wp_X4_waits σ x1 (fun σ1 r1 => V ∧ wp_X5_waits σ1 x1 (fun σ2 r2 => (r1 = r2 → K σ2) ∧ (¬ (r1 = r2) → False))) := by
  obtain ⟨⟨h2, h6⟩, eN, eM⟩ := h.n
  unfold wp_X4_waits
  refine C_isNode eN h6 (fun a => ⟨fun c => absurd c (by decide), fun _ => ⟨a.vp h6 (by omega), hV, ?_⟩⟩) (fun a => ⟨fun _ => ⟨hV, ?_⟩, fun c => absurd rfl c⟩)
  · obtain ⟨k, hk, rfl⟩ := a
    unfold wp_X5_waits
    refine M_isNode eM h6 (fun _ => ⟨fun c => absurd c (by decide), fun _ => ⟨vp_n (by omega) (by omega), eqK ?_ hK⟩⟩) (fun z => absurd ⟨k, hk, rfl⟩ z)
    rw [i_n k (by omega), h.1.2.1.a6, (h.2.1.2.2.2.1 k (by omega)).1.1]
  · unfold wp_X5_waits
    exact M_isNode eM h6 (fun z => absurd z a) (fun _ => ⟨fun _ => eqK rfl hK, fun c => absurd rfl c⟩)
theorem q_result {N : Nat} {τ σ : Sg} {ls : List Lt} {qs : Qu} (h : Al N τ ls qs σ) {x1 : Int32} {V : Prop} {K : Sg → Prop} (hV : V) (hK : K σ) : wp_X4_result σ x1 (fun σ1 r1 => V ∧ wp_X5_result σ1 x1 (fun σ2 r2 => (lg_cmp r1 r2 = 0 → K σ2) ∧ (¬ (lg_cmp r1 r2 = 0) → False))) := by
  obtain ⟨⟨h2, h6⟩, eN, eM⟩ := h.n
  unfold wp_X4_result
  refine C_isNode eN h6 (fun a => ⟨fun c => absurd c (by decide), fun _ => ⟨a.vp h6 (by omega), hV, ?_⟩⟩) (fun a => ⟨fun _ => ⟨hV, ?_⟩, fun c => absurd rfl c⟩)
  · obtain ⟨k, hk, rfl⟩ := a
    unfold wp_X5_result
    refine M_isNode eM h6 (fun _ => ⟨fun c => absurd c (by decide), fun _ => ⟨vp_n (by omega) (by omega), eqL ?_ hK⟩⟩) (fun z => absurd ⟨k, hk, rfl⟩ z)
    rw [i_n k (by omega), h.1.2.1.l6, (h.2.1.2.2.2.1 k (by omega)).1.2.2.2.2.2]
  · unfold wp_X5_result
    exact M_isNode eM h6 (fun z => absurd z a) (fun _ => ⟨fun _ => eqL rfl hK, fun c => absurd rfl c⟩)
def atV (τ : Sg) (k : Nat) (x2 : Int32) : Int32 := if x2 = 4 then τ.1 6 k 8 else if τ.1 6 k 0 = 0 then -1 else if x2 = 0 then τ.1 6 k 2 else if x2 = 1 then τ.1 6 k 3 else if x2 = 2 then (if τ.1 6 k 4 = 0 then 0 else 1) else if x2 = 3 then τ.1 6 k 6 else -1
theorem q_at {N : Nat} {τ σ : Sg} {ls : List Lt} {qs : Qu} (h : Al N τ ls qs σ) {x1 x2 : Int32} {V V2 : Prop} {K : Sg → Prop} (hV : V) (hV2 : V2) (hK : K σ) : wp_X4_at σ x1 x2 (fun σ1 r1 => V ∧ (V2 ∧ wp_X5_at σ1 x1 x2 (fun σ2 r2 => (r1 = r2 → K σ2) ∧ (¬ (r1 = r2) → False)))) := by
  obtain ⟨⟨h2, h6⟩, eN, eM⟩ := h.n
  unfold wp_X4_at
  refine C_isNode eN h6 (fun a => ⟨fun c => absurd c (by decide), fun _ => ⟨a.vp h6 (by omega), ?_⟩⟩) (fun a => ⟨fun _ => ⟨hV, hV2, ?_⟩, fun c => absurd rfl c⟩)
  · obtain ⟨k, hk, rfl⟩ := a
    have hv : vp_in (nI k) 6 := vp_n (by omega) (by omega)
    obtain ⟨⟨m28, m33, m34, m35, m36, m37⟩, mh⟩ := h.2.1.2.2.2.1 k (by omega)
    obtain ⟨y1, y2, y3, y4, y5, y6, y7, y8⟩ := h.2.2.1.1.2.1 k (by omega)
    simp only at y1 y2 y3 y4 y5 y6 y7 y8
    have hM : ∀ v, v = atV τ k x2 → V ∧ (V2 ∧ wp_X5_at σ (nI k) x2 (fun σ2 r2 => (v = r2 → K σ2) ∧ (¬ (v = r2) → False))) := by
      intro v hv'
      subst hv'
      refine ⟨hV, hV2, ?_⟩
      unfold wp_X5_at
      refine M_isNode eM h6 (fun _ => ⟨fun c => absurd c (by decide), fun _ => ?_⟩) (fun z => absurd ⟨k, hk, rfl⟩ z)
      rw [i_n k (by omega), m28, m33, m35, m36]
      unfold atV
      refine ⟨fun c4 => ?_, fun c4 => ⟨hv, fun c0 => ?_, fun c0 => ?_⟩⟩
      · subst c4
        rw [if_pos rfl]
        exact ⟨fun z => absurd z (by decide), fun _ => ⟨fun z => absurd z (by decide), fun _ => ⟨fun z => absurd z (by decide), fun _ => ⟨fun z => absurd z (by decide), fun _ => ⟨fun _ => ⟨hv, eqK rfl hK⟩, fun z => absurd rfl z⟩⟩⟩⟩⟩
      · rw [if_neg c4, if_pos c0]
        exact eqK rfl hK
      · rw [if_neg c4, if_neg c0]
        obtain ⟨m29, m30, m31, m32⟩ := mh (y6.resolve_left c0)
        rw [m29, m30, m31]
        refine ⟨fun d0 => ⟨hv, eqK (if_pos d0) hK⟩, fun d0 => ?_⟩
        rw [if_neg d0]
        refine ⟨fun d1 => ⟨hv, eqK (if_pos d1) hK⟩, fun d1 => ?_⟩
        rw [if_neg d1]
        refine ⟨fun d2 => ⟨hv, fun e4 => ?_, fun e4 => ?_⟩, fun d2 => ?_⟩
        · rw [if_pos d2, if_pos e4]; exact eqK rfl hK
        · rw [if_pos d2, if_neg e4]; exact eqK rfl hK
        rw [if_neg d2]
        refine ⟨fun d3 => ⟨hv, fun e3 => ⟨hv, eqK (if_pos d3) hK⟩, fun e3 => ?_⟩, fun d3 => ⟨fun z => absurd z c4, fun _ => eqK (if_neg d3) hK⟩⟩
        rw [if_pos d3]
        refine eqK ?_ hK
        have : an τ k = 0 := y5 (fun z => e3 (by rw [y1.1, z]; rfl))
        rw [y4.1, this]
        rfl
    rw [i_n k (by omega), h.1.2.1.a6]
    refine ⟨fun c4 => hM _ ?_, fun c4 => ⟨fun c0 => hM _ ?_, fun c0 => ⟨fun d0 => hM _ ?_, fun d0 => ⟨fun d1 => hM _ ?_, fun d1 => ⟨fun d2 => ⟨fun e4 => hM _ ?_, fun e4 => hM _ ?_⟩, fun d2 => ⟨fun d3 => hM _ ?_, fun d3 => hM _ ?_⟩⟩⟩⟩⟩⟩
    · unfold atV; rw [if_pos c4]
    · unfold atV; rw [if_neg c4, if_pos c0]
    · unfold atV; rw [if_neg c4, if_neg c0, if_pos d0]
    · unfold atV; rw [if_neg c4, if_neg c0, if_neg d0, if_pos d1]
    · unfold atV; rw [if_neg c4, if_neg c0, if_neg d0, if_neg d1, if_pos d2, if_pos e4]
    · unfold atV; rw [if_neg c4, if_neg c0, if_neg d0, if_neg d1, if_pos d2, if_neg e4]
    · unfold atV; rw [if_neg c4, if_neg c0, if_neg d0, if_neg d1, if_neg d2, if_pos d3]
    · unfold atV; rw [if_neg c4, if_neg c0, if_neg d0, if_neg d1, if_neg d2, if_neg d3]
  · unfold wp_X5_at
    exact M_isNode eM h6 (fun z => absurd z a) (fun _ => ⟨fun _ => eqK rfl hK, fun c => absurd rfl c⟩)
theorem M_isPlace {σ : Sg} {N : Nat} (eN : σ.1 20 0 0 = nI N) (hN : N ≤ 6) {x1 x2 : Int32} {Q : Sg → Int32 → Prop} (h1 : inR x1 N → inR x2 8 → Q σ 1) (h0 : ¬ (inR x1 N ∧ inR x2 8) → Q σ 0) : wp_X5_isPlace σ x1 x2 Q := by
  unfold wp_X5_isPlace
  refine M_isNode eN hN (fun a1 => ⟨fun c => absurd c (by decide), fun _ => ?_⟩) (fun a1 => ⟨fun _ => h0 (fun z => a1 z.1), fun c => absurd rfl c⟩)
  exact M_isPage (fun a2 => ⟨fun c => absurd c (by decide), fun _ => h1 a1 a2⟩) (fun a2 => ⟨fun _ => h0 (fun z => a2 z.2), fun c => absurd rfl c⟩)
theorem q_pg {N : Nat} {τ σ : Sg} {ls : List Lt} {qs : Qu} (h : Al N τ ls qs σ) {x1 x2 : Int32} {V V2 : Prop} {K : Sg → Prop} (hV : V) (hV2 : V2) (hK : K σ) {a b : Nat} (e : ∀ k p, k < 6 → p < 8 → σ.1 a k p = σ.1 b 0 (8 * k + p)) : wp_X4_isNode σ x1 (fun σ1 r2 => ((r2 = 0 → (V ∧ (V2 ∧ wp_X5_isPlace σ1 x1 x2 (fun σ3 r4 => ((r4 = 0 → (((-1 : Int32) = -1 → K σ3) ∧ (¬ ((-1 : Int32) = -1) → False))) ∧ (¬ (r4 = 0) → (wp_X5_place σ3 x1 x2 (fun σ5 r6 => (vp_in r6 48 ∧ ((-1 = (σ5.1 b 0 (ix r6)) → K σ5) ∧ (¬ (-1 = (σ5.1 b 0 (ix r6))) → False))))))))))) ∧ (¬ (r2 = 0) → (wp_X4_isPage σ1 x2 (fun σ5 r6 => ((r6 = 0 → (V ∧ (V2 ∧ wp_X5_isPlace σ5 x1 x2 (fun σ3 r4 => ((r4 = 0 → (((-1 : Int32) = -1 → K σ3) ∧ (¬ ((-1 : Int32) = -1) → False))) ∧ (¬ (r4 = 0) → (wp_X5_place σ3 x1 x2 (fun σ5 r6 => (vp_in r6 48 ∧ ((-1 = (σ5.1 b 0 (ix r6)) → K σ5) ∧ (¬ (-1 = (σ5.1 b 0 (ix r6))) → False))))))))))) ∧ (¬ (r6 = 0) → (vp_in x1 6 ∧ (vp_in x2 8 ∧ (V ∧ (V2 ∧ wp_X5_isPlace σ5 x1 x2 (fun σ3 r4 => ((r4 = 0 → (((σ5.1 a (ix x1) (ix x2)) = -1 → K σ3) ∧ (¬ ((σ5.1 a (ix x1) (ix x2)) = -1) → False))) ∧ (¬ (r4 = 0) → (wp_X5_place σ3 x1 x2 (fun σ7 r6 => (vp_in r6 48 ∧ (((σ5.1 a (ix x1) (ix x2)) = (σ7.1 b 0 (ix r6)) → K σ7) ∧ (¬ ((σ5.1 a (ix x1) (ix x2)) = (σ7.1 b 0 (ix r6))) → False))))))))))))))))))) := by
  obtain ⟨⟨h2, h6⟩, eN, eM⟩ := h.n
  refine C_isNode eN h6 (fun a1 => ⟨fun c => absurd c (by decide), fun _ => ?_⟩) (fun a1 => ⟨fun _ => ⟨hV, hV2, ?_⟩, fun c => absurd rfl c⟩)
  · refine C_isPage (fun a2 => ⟨fun c => absurd c (by decide), fun _ => ⟨a1.vp h6 (by omega), a2.vp (Nat.le_refl 8) (by omega), hV, hV2, ?_⟩⟩) (fun a2 => ⟨fun _ => ⟨hV, hV2, ?_⟩, fun c => absurd rfl c⟩)
    · obtain ⟨k, hk, rfl⟩ := id a1
      obtain ⟨p, hp, rfl⟩ := id a2
      refine M_isPlace eM h6 (fun _ _ => ⟨fun c => absurd c (by decide), fun _ => ?_⟩) (fun z => absurd ⟨a1, a2⟩ z)
      unfold wp_X5_place
      rw [pl_n, i_n k (by omega), i_n p (by omega)]
      refine ⟨vp_n (by omega) (by omega), eqK ?_ hK⟩
      rw [i_n (8 * k + p) (by omega)]
      exact e k p (by omega) hp
    · exact M_isPlace eM h6 (fun _ z => absurd z a2) (fun _ => ⟨fun _ => eqK rfl hK, fun c => absurd rfl c⟩)
  · exact M_isPlace eM h6 (fun z _ => absurd z a1) (fun _ => ⟨fun _ => eqK rfl hK, fun c => absurd rfl c⟩)
theorem q_access {N : Nat} {τ σ : Sg} {ls : List Lt} {qs : Qu} (h : Al N τ ls qs σ) {x1 x2 : Int32} {V V2 : Prop} {K : Sg → Prop} (hV : V) (hV2 : V2) (hK : K σ) : wp_X4_access σ x1 x2 (fun σ1 r1 => V ∧ (V2 ∧ wp_X5_access σ1 x1 x2 (fun σ2 r2 => (r1 = r2 → K σ2) ∧ (¬ (r1 = r2) → False)))) :=
  q_pg h hV hV2 hK (a := 7) (b := 21) (fun k p hk hp => by rw [h.1.2.1.a7, (h.2.1.2.1 k p hk hp).1])
theorem q_guess {N : Nat} {τ σ : Sg} {ls : List Lt} {qs : Qu} (h : Al N τ ls qs σ) {x1 x2 : Int32} {V V2 : Prop} {K : Sg → Prop} (hV : V) (hV2 : V2) (hK : K σ) : wp_X4_guess σ x1 x2 (fun σ1 r1 => V ∧ (V2 ∧ wp_X5_guess σ1 x1 x2 (fun σ2 r2 => (r1 = r2 → K σ2) ∧ (¬ (r1 = r2) → False)))) :=
  q_pg h hV hV2 hK (a := 9) (b := 23) (fun k p hk hp => by rw [h.1.2.1.a9, (h.2.1.2.1 k p hk hp).2.2.1])
theorem q_copies {N : Nat} {τ σ : Sg} {ls : List Lt} {qs : Qu} (h : Al N τ ls qs σ) {x1 x2 : Int32} {V V2 : Prop} {K : Sg → Prop} (hV : V) (hV2 : V2) (hK : K σ) : wp_X4_copies σ x1 x2 (fun σ1 r1 => V ∧ (V2 ∧ wp_X5_copies σ1 x1 x2 (fun σ2 r2 => (r1 = r2 → K σ2) ∧ (¬ (r1 = r2) → False)))) :=
  q_pg h hV hV2 hK (a := 10) (b := 24) (fun k p hk hp => by rw [h.1.2.1.a10, (h.2.1.2.1 k p hk hp).2.2.2])
theorem q_queue {N : Nat} {τ σ : Sg} {ls : List Lt} {qs : Qu} (h : Al N τ ls qs σ) {x1 x2 : Int32} {V V2 : Prop} {K : Sg → Prop} (hV : V) (hV2 : V2) (hK : K σ) : wp_X4_queue σ x1 x2 (fun σ1 r1 => V ∧ (V2 ∧ wp_X5_queue σ1 x1 x2 (fun σ2 r2 => (r1 = r2 → K σ2) ∧ (¬ (r1 = r2) → False)))) :=
  q_pg h hV hV2 hK (a := 12) (b := 27) (fun k p hk hp => by rw [(h.1.2.2.2.2.2 k p hk hp).2.1, (h.2.1.2.2.2.2.2.2 k p hk hp).2.1])
theorem q_word {N : Nat} {τ σ : Sg} {ls : List Lt} {qs : Qu} (h : Al N τ ls qs σ) {x1 x2 x3 : Int32} {V V2 V3 : Prop} {K : Sg → Prop} (hV : V) (hV2 : V2) (hV3 : V3) (hK : K σ) : wp_X4_word σ x1 x2 x3 (fun σ1 r1 => V ∧ (V2 ∧ (V3 ∧ wp_X5_word σ1 x1 x2 x3 (fun σ2 r2 => (lg_cmp r1 r2 = 0 → K σ2) ∧ (¬ (lg_cmp r1 r2 = 0) → False))))) := by
  obtain ⟨⟨h2, h6⟩, eN, eM⟩ := h.n
  unfold wp_X4_word
  have hno : ¬ (inR x1 N ∧ inR x2 8 ∧ inR x3 4) → wp_X5_word σ x1 x2 x3 (fun σ2 r2 => (lg_cmp 0 r2 = 0 → K σ2) ∧ (¬ (lg_cmp 0 r2 = 0) → False)) := fun hn => by
    unfold wp_X5_word
    refine M_isPlace eM h6 (fun a1 a2 => ⟨fun c => absurd c (by decide), fun _ => ?_⟩) (fun _ => ⟨fun _ => eqL rfl hK, fun c => absurd rfl c⟩)
    exact br (n := 4) rfl (by omega) (fun a3 => absurd ⟨a1, a2, a3⟩ hn) (fun _ => eqL rfl hK)
  refine C_isNode eN h6 (fun a1 => ⟨fun c => absurd c (by decide), fun _ => ?_⟩) (fun a1 => ⟨fun _ => ⟨hV, hV2, hV3, hno (fun z => a1 z.1)⟩, fun c => absurd rfl c⟩)
  refine C_isPage (fun a2 => ⟨fun c => absurd c (by decide), fun _ => ?_⟩) (fun a2 => ⟨fun _ => ⟨hV, hV2, hV3, hno (fun z => a2 z.2.1)⟩, fun c => absurd rfl c⟩)
  refine C_isWord (fun a3 => ⟨fun c => absurd c (by decide), fun _ => ⟨a1.vp h6 (by omega), ?_⟩⟩) (fun a3 => ⟨fun _ => ⟨hV, hV2, hV3, hno (fun z => a3 z.2.2)⟩, fun c => absurd rfl c⟩)
  obtain ⟨k, hk, rfl⟩ := id a1
  obtain ⟨p, hp, rfl⟩ := id a2
  obtain ⟨w, hw, rfl⟩ := id a3
  rw [nI_lit4, nI_add, i_n k (by omega), i_n (p * 4 + w) (by omega)]
  refine ⟨vp_n (by omega) (by omega), hV, hV2, hV3, ?_⟩
  unfold wp_X5_word
  refine M_isPlace eM h6 (fun _ _ => ⟨fun c => absurd c (by decide), fun _ => ?_⟩) (fun z => absurd ⟨a1, a2⟩ z)
  refine br (n := 4) rfl (by omega) (fun _ => ?_) (fun z => absurd a3 z)
  unfold wp_X5_place
  rw [pl_n]
  show vp_in (4 * nI (8 * k + p) + nI w) 192 ∧ ((lg_cmp (σ.2.1 11 k (p * 4 + w)) (σ.2.1 25 0 (ix (4 * nI (8 * k + p) + nI w))) = 0 → K σ) ∧ (¬ (lg_cmp (σ.2.1 11 k (p * 4 + w)) (σ.2.1 25 0 (ix (4 * nI (8 * k + p) + nI w))) = 0) → False))
  rw [nI_4lit, nI_add]
  refine ⟨vp_n (by omega) (by omega), eqL ?_ hK⟩
  rw [i_n (4 * (8 * k + p) + w) (by omega), h.1.2.1.l11, ← h.2.1.2.2.1 k (p * 4 + w) (by omega) (by omega), show 32 * k + (p * 4 + w) = 4 * (8 * k + p) + w by omega]
theorem q_flying {N : Nat} {τ σ : Sg} {ls : List Lt} {qs : Qu} (h : Al N τ ls qs σ) {K : Sg → Prop} (hK : K σ) : wp_X4_flying σ (fun σ1 r1 => wp_X5_flying σ1 (fun σ2 r2 => (r1 = r2 → K σ2) ∧ (¬ (r1 = r2) → False))) := by
  unfold wp_X4_flying wp_X5_flying
  refine eqK ?_ hK
  rw [h.1.2.2.2.2.1.2.1, h.2.1.2.2.2.2.2.1.1]
theorem q_count {N : Nat} {τ σ : Sg} {ls : List Lt} {qs : Qu} (h : Al N τ ls qs σ) {x1 : Int32} {V : Prop} {K : Sg → Prop} (hV : V) (hK : K σ) : wp_X4_count σ x1 (fun σ1 r1 => V ∧ wp_X5_count σ1 x1 (fun σ2 r2 => (r1 = r2 → K σ2) ∧ (¬ (r1 = r2) → False))) := by
  unfold wp_X4_count
  refine br (n := 8) rfl (by omega) (fun a => ⟨a.vp (Nat.le_refl 8) (by omega), hV, ?_⟩) (fun a => ⟨hV, ?_⟩)
  · obtain ⟨c, hc, rfl⟩ := a
    rw [i_n c (by omega), h.1.2.1.a2]
    unfold wp_X5_count
    rw [i_n c (by omega)]
    refine ⟨fun z => eqK ?_ hK, fun z => ⟨fun z2 => ?_, fun _ => ⟨fun z2 => ?_, fun _ => ⟨vp_n (by omega) (by omega), eqK ?_ hK⟩⟩⟩⟩
    · have : c = 0 := nI_inj (b := 0) (by omega) (by omega) z
      subst this
      rw [h.2.1.2.2.2.2.1.1]
      exact h.2.2.2.1
    · exfalso
      refine absurd z2 (nI_ge (a := 0) ?_ (by omega))
      by_cases y : c = 0
      · exact absurd (by rw [y]; rfl) z
      · omega
    · exact absurd z2 (nI_ge (b := 8) hc (by omega))
    · have : 1 ≤ c := by
        by_cases y : c = 0
        · exact absurd (by rw [y]; rfl) z
        · omega
      rw [h.2.1.2.2.2.2.1.2 c this hc]
  · unfold wp_X5_count
    refine ⟨fun z => absurd ⟨0, by omega, z⟩ a, fun _ => ⟨fun _ => eqK rfl hK, fun z => ⟨fun _ => eqK rfl hK, fun z2 => ?_⟩⟩⟩
    exfalso
    have hlt : ¬ x1 < 0 := fun y => z (Int32.le_of_lt y)
    obtain ⟨j, hj, e⟩ := nI_of hlt
    refine a ⟨j, ?_, e⟩
    by_cases q : j < 8
    · exact q
    · exfalso
      rw [e] at z2
      exact z2 (nI_le (a := 8) (by omega) hj)
theorem leN5 {x : Int32} {n : Nat} (h : ¬ x < 0) (h2 : ¬ nI n < x) (hn : n < 2147483648) : ∃ j, j ≤ n ∧ x = nI j := by
  obtain ⟨j, hj, e⟩ := nI_of h
  refine ⟨j, ?_, e⟩
  by_cases q : j ≤ n
  · exact q
  · exfalso
    rw [e] at h2
    exact h2 (nI_lt (by omega) hj)
theorem q_letter {N : Nat} {τ σ : Sg} {ls : List Lt} {qs : Qu} (h : Al N τ ls qs σ) {x1 x2 : Int32} {V V2 : Prop} {K : Sg → Prop} (hV : V) (hV2 : V2) (hK : K σ) : wp_X4_letter σ x1 x2 (fun σ1 r1 => V ∧ (V2 ∧ wp_X5_letter σ1 x1 x2 (fun σ2 r2 => (r1 = r2 → K σ2) ∧ (¬ (r1 = r2) → False)))) := by
  have hlen := h.2.2.1.len
  simp only at hlen
  have vm := h.1.2.2.2.2.1
  have ml := h.2.1.2.2.2.2.2.1
  unfold wp_X4_letter
  refine C_has vm.1 vm.2.1 (fun a => ⟨fun c => absurd c (by decide), fun _ => ⟨a.vp vm.1 (by omega), ?_⟩⟩) (fun a => ⟨fun _ => ⟨hV, hV2, ?_⟩, fun c => absurd rfl c⟩)
  · obtain ⟨i, hil, rfl⟩ := id a
    have hl : ls[i]? = some ls[i] := List.getElem?_eq_getElem hil
    generalize ls[i] = l at hl
    obtain ⟨⟨v0, v1, v2, v3, v4, v5⟩, -⟩ := vm.2.2 i l hl
    obtain ⟨⟨m0, m1, m2, m3, m4, m5⟩, -⟩ := ml.2.2 i l hl
    rw [i_n i (by omega)]
    refine ⟨h.1.2.2.2.1.2.1 i (by omega), ?_⟩
    rw [v0, v1, v2, v3, v4, v5]
    have hM : ∀ (c : Nat) (v : Int32), c ≤ 5 → v = σ.1 38 0 (7 * i + c) → V ∧ (V2 ∧ wp_X5_letter σ (nI i) (nI c) (fun σ2 r2 => (v = r2 → K σ2) ∧ (¬ (v = r2) → False))) := fun c v hc hv => by
      refine ⟨hV, hV2, ?_⟩
      unfold wp_X5_letter
      refine br ml.1 (by omega) (fun _ => ⟨fun z => absurd z (nI_pos (by omega)), fun _ => ⟨fun z => ?_, fun _ => ?_⟩⟩) (fun z => absurd a z)
      · exfalso
        rw [Int32.lt_iff_toInt_lt, nI_toInt (by omega), show (5 : Int32).toInt = 5 from rfl] at z
        omega
      · rw [nI_lit7, nI_add]
        refine ⟨vp_n (by omega) (by omega), eqK ?_ hK⟩
        rw [i_n (7 * i + c) (by omega)]
        exact hv
    refine ⟨fun c => ?_, fun c0 => ⟨fun c => ?_, fun c1 => ⟨fun c => ?_, fun c2 => ⟨fun c => ?_, fun c3 => ⟨fun c => ?_, fun c4 => ⟨fun c => ?_, fun c5 => ?_⟩⟩⟩⟩⟩⟩
    · subst c; exact hM 0 _ (by omega) m0.symm
    · subst c; exact hM 1 _ (by omega) m1.symm
    · subst c; exact hM 2 _ (by omega) m2.symm
    · subst c; exact hM 3 _ (by omega) m3.symm
    · subst c; exact hM 4 _ (by omega) m4.symm
    · subst c; exact hM 5 _ (by omega) m5.symm
    · refine ⟨hV, hV2, ?_⟩
      unfold wp_X5_letter
      refine br ml.1 (by omega) (fun _ => ⟨fun z => eqK rfl hK, fun z => ⟨fun z => eqK rfl hK, fun z2 => ?_⟩⟩) (fun z => absurd a z)
      exfalso
      obtain ⟨j, hj, e⟩ := leN5 (n := 5) z z2 (by omega)
      have h6 : j = 0 ∨ j = 1 ∨ j = 2 ∨ j = 3 ∨ j = 4 ∨ j = 5 := by omega
      rcases h6 with y | y | y | y | y | y <;> rw [y] at e
      · exact c0 e
      · exact c1 e
      · exact c2 e
      · exact c3 e
      · exact c4 e
      · exact c5 e
  · unfold wp_X5_letter
    exact br ml.1 (by omega) (fun z => absurd z a) (fun _ => eqK rfl hK)
theorem q_letterWord {N : Nat} {τ σ : Sg} {ls : List Lt} {qs : Qu} (h : Al N τ ls qs σ) {x1 x2 : Int32} {V V2 : Prop} {K : Sg → Prop} (hV : V) (hV2 : V2) (hK : K σ) : wp_X4_letterWord σ x1 x2 (fun σ1 r1 => V ∧ (V2 ∧ wp_X5_letterWord σ1 x1 x2 (fun σ2 r2 => (lg_cmp r1 r2 = 0 → K σ2) ∧ (¬ (lg_cmp r1 r2 = 0) → False)))) := by
  have hlen := h.2.2.1.len
  simp only at hlen
  have vm := h.1.2.2.2.2.1
  have ml := h.2.1.2.2.2.2.2.1
  unfold wp_X4_letterWord
  have hno : ¬ (inR x1 ls.length ∧ inR x2 4) → wp_X5_letterWord σ x1 x2 (fun σ2 r2 => (lg_cmp 0 r2 = 0 → K σ2) ∧ (¬ (lg_cmp 0 r2 = 0) → False)) := fun hn => by
    unfold wp_X5_letterWord
    refine br ml.1 (by omega) (fun a1 => ?_) (fun _ => eqL rfl hK)
    exact br (n := 4) rfl (by omega) (fun a2 => absurd ⟨a1, a2⟩ hn) (fun _ => eqL rfl hK)
  refine C_has vm.1 vm.2.1 (fun a => ⟨fun c => absurd c (by decide), fun _ => ?_⟩) (fun a => ⟨fun _ => ⟨hV, hV2, hno (fun z => a z.1)⟩, fun c => absurd rfl c⟩)
  refine C_isWord (fun a2 => ⟨fun c => absurd c (by decide), fun _ => ⟨a.vp vm.1 (by omega), ?_⟩⟩) (fun a2 => ⟨fun _ => ⟨hV, hV2, hno (fun z => a2 z.2)⟩, fun c => absurd rfl c⟩)
  obtain ⟨i, hil, rfl⟩ := id a
  obtain ⟨w, hw, rfl⟩ := id a2
  have hl : ls[i]? = some ls[i] := List.getElem?_eq_getElem hil
  generalize ls[i] = l at hl
  obtain ⟨⟨v0, v1, v2, v3, v4, v5⟩, v6⟩ := vm.2.2 i l hl
  have m6 := (ml.2.2 i l hl).2 w hw
  have hlw := h.2.2.1.lw hl
  rw [i_n i (by omega), i_n w (by omega), v0]
  have hM : ∀ v : Int64, v = lw l w → V ∧ (V2 ∧ wp_X5_letterWord σ (nI i) (nI w) (fun σ2 r2 => (lg_cmp v r2 = 0 → K σ2) ∧ (¬ (lg_cmp v r2 = 0) → False))) := fun v hv => by
    refine ⟨hV, hV2, ?_⟩
    unfold wp_X5_letterWord
    refine br ml.1 (by omega) (fun _ => ?_) (fun z => absurd a z)
    refine br (n := 4) rfl (by omega) (fun _ => ?_) (fun z => absurd a2 z)
    rw [nI_4lit, nI_add]
    refine ⟨vp_n (by omega) (by omega), eqL ?_ hK⟩
    rw [i_n (4 * i + w) (by omega), m6]
    exact hv
  have l1 := hlw.1
  refine ⟨h.1.2.2.2.1.2.1 i (by omega), fun c => ⟨vp_n (by omega) (by omega), hM _ ?_⟩, fun c => ⟨fun d => ⟨vp_n (by omega) (by omega), hM _ ?_⟩, fun d => hM _ ?_⟩⟩
  · exact v6 (Or.inl (nI_inj (b := 3) (by omega) (by omega) c)) w hw
  · exact v6 (Or.inr (nI_inj (b := 4) (by omega) (by omega) d)) w hw
  · rw [h.2.2.2.2 l (List.mem_of_getElem? hl) (fun z => by
      rcases z with z | z
      · exact c (by rw [z]; rfl)
      · exact d (by rw [z]; rfl))]
