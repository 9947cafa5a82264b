/-! PURE: the whole script, and the start -/
set_option maxHeartbeats 4000000 in
set_option maxRecDepth 100000 in
theorem L_step {xs : Nat → Int32} {L i n N : Nat} {τ σ : Sg} {ls : List Lt} {qs : Qu} (hL : L ≤ 3072) (hi : i + 6 ≤ L) (h : Al N τ ls qs σ) (ih : ∀ N' τ' ls' qs' σ', Al N' τ' ls' qs' σ' → lpL xs L n σ' (nI (i + 6))) : lpL xs L (n + 1) σ (nI i) := by
  have e6 : nI i + 6 = nI (i + 6) := nI_add i 6
  have hK : ∀ N' τ' ls' qs' σ', Al N' τ' ls' qs' σ' → lpL xs L n σ' (nI i + 6) := by rw [e6]; exact ih
  have v0 : vp_in (nI i) L := vp_n (by omega) (by omega)
  have v1 : vp_in (nI i + 1) L := by rw [nI_p1]; exact vp_n (by omega) (by omega)
  have v2 : vp_in (nI i + 2) L := by rw [nI_p2]; exact vp_n (by omega) (by omega)
  have v3 : vp_in (nI i + 3) L := by rw [nI_p3]; exact vp_n (by omega) (by omega)
  have v4 : vp_in (nI i + 4) L := by rw [nI_p4]; exact vp_n (by omega) (by omega)
  have v5 : vp_in (nI i + 5) L := by rw [nI_p5]; exact vp_n (by omega) (by omega)
  have hS := hK _ _ _ _ _ h
  rw [lpL]
  refine ⟨fun _ => trivial, fun _ => ⟨v0, ?_⟩⟩
  refine ⟨fun _ => ⟨v1, s_begin (K := fun σ' => lpL xs L n σ' (nI i + 6)) h v1 hK⟩, fun _ => ?_⟩
  refine ⟨fun _ => ⟨v1, v2, v3, s_read (K := fun σ' => lpL xs L n σ' (nI i + 6)) h v1 v2 v3 hK⟩, fun _ => ?_⟩
  refine ⟨fun _ => ⟨v1, v2, v3, v4, v5, s_write (K := fun σ' => lpL xs L n σ' (nI i + 6)) h v1 v2 v3 v4 v5 hK⟩, fun _ => ?_⟩
  refine ⟨fun _ => ⟨v1, s_deliver (K := fun σ' => lpL xs L n σ' (nI i + 6)) h v1 hK⟩, fun _ => ?_⟩
  refine ⟨fun _ => ⟨v1, q_waits (K := fun σ' => lpL xs L n σ' (nI i + 6)) h v1 hS⟩, fun _ => ?_⟩
  refine ⟨fun _ => ⟨v1, v2, q_at (K := fun σ' => lpL xs L n σ' (nI i + 6)) h v1 v2 hS⟩, fun _ => ?_⟩
  refine ⟨fun _ => ⟨v1, q_result (K := fun σ' => lpL xs L n σ' (nI i + 6)) h v1 hS⟩, fun _ => ?_⟩
  refine ⟨fun _ => ⟨v1, v2, q_access (K := fun σ' => lpL xs L n σ' (nI i + 6)) h v1 v2 hS⟩, fun _ => ?_⟩
  refine ⟨fun _ => ⟨v1, q_owner (K := fun σ' => lpL xs L n σ' (nI i + 6)) h v1 hS⟩, fun _ => ?_⟩
  refine ⟨fun _ => ⟨v1, v2, q_guess (K := fun σ' => lpL xs L n σ' (nI i + 6)) h v1 v2 hS⟩, fun _ => ?_⟩
  refine ⟨fun _ => ⟨v1, v2, q_copies (K := fun σ' => lpL xs L n σ' (nI i + 6)) h v1 v2 hS⟩, fun _ => ?_⟩
  refine ⟨fun _ => ⟨v1, v2, v3, q_word (K := fun σ' => lpL xs L n σ' (nI i + 6)) h v1 v2 v3 hS⟩, fun _ => ?_⟩
  refine ⟨fun _ => ⟨v1, v2, q_queue (K := fun σ' => lpL xs L n σ' (nI i + 6)) h v1 v2 hS⟩, fun _ => ?_⟩
  refine ⟨fun _ => ⟨v1, v2, q_chain (K := fun σ' => lpL xs L n σ' (nI i + 6)) h v1 v2 hS⟩, fun _ => ?_⟩
  refine ⟨fun _ => q_flying (K := fun σ' => lpL xs L n σ' (nI i + 6)) h hS, fun _ => ?_⟩
  refine ⟨fun _ => ⟨v1, v2, q_letter (K := fun σ' => lpL xs L n σ' (nI i + 6)) h v1 v2 hS⟩, fun _ => ?_⟩
  refine ⟨fun _ => ⟨v1, v2, q_letterWord (K := fun σ' => lpL xs L n σ' (nI i + 6)) h v1 v2 hS⟩, fun _ => ?_⟩
  exact ⟨fun _ => ⟨v1, q_count (K := fun σ' => lpL xs L n σ' (nI i + 6)) h v1 hS⟩, fun _ => hS⟩
theorem L_all {xs : Nat → Int32} {L : Nat} (hL : L ≤ 3072) : ∀ (m i N : Nat) (τ σ : Sg) (ls : List Lt) (qs : Qu), i ≤ L → L < i + 6 * (m + 1) → Al N τ ls qs σ → lpL xs L (m + 1) σ (nI i) := by
  intro m
  induction m with
  | zero =>
    intro i N τ σ ls qs hi hm h
    rw [lpL]
    exact ⟨fun _ => trivial, fun c => absurd ((subL hL (by omega)).mpr (by omega)) c⟩
  | succ m ih =>
    intro i N τ σ ls qs hi hm h
    by_cases c : i + 6 ≤ L
    · exact L_step hL c h (fun N' τ' ls' qs' σ' h' => ih (i + 6) N' τ' σ' ls' qs' c (by omega) h')
    · rw [lpL]
      exact ⟨fun _ => trivial, fun d => absurd ((subL hL (by omega)).mpr (by omega)) d⟩
theorem L_start {xs : Nat → Int32} {L : Nat} (hL : L ≤ 3072) : wp_X4_startAnew sg0 4 (fun σ => (∀ j, j < 32 → σ.2.2 j < 32) ∧ wp_X5_begin (sgm σ) 4 (fun σ2 _ => ∃ n, lpL xs L n σ2 0)) := by
  refine C_start (N := 4) (by omega) (by omega) (fun k hk => rfl) _ (fun σ1 hE hr hVN hI => ⟨fun j hj => by rw [hr]; exact hj, ?_⟩)
  refine M_begin (N := 4) (by omega) (by omega) _ (fun σ2 hE2 hM => ⟨L + 1, ?_⟩)
  have h1 : RC false σ1 σ1 [] noQ σ1 := Ini.rc hI hVN (by rw [hr]; exact ⟨fun j hj => hj, fun i j _ _ e => e⟩)
  have h2 : EqC false σ1 (sgm σ1) := ⟨fun a ha => by
    have ha : a < 20 := by
      rcases ha with z | z
      · exact z
      · cases z.1
    constructor
    · funext k f; simp [sgm, ha]
    · funext k f; simp [sgm, ha], rfl⟩
  refine L_all hL L 0 4 σ1 σ2 [] noQ (by omega) (by omega) ⟨h1.mv (h2.trans hE2), MIni.rm (by omega) hI hM, Ini.inv (by omega) (by omega) hI, ⟨by show σ1.1 2 0 0 = σ1.1 0 0 3; rw [hI.2.2.2.1, hI.1], fun l hl => by simp at hl⟩⟩
/-- from the entry, for every script of at most 3072 ints, the law comes to its end with true -/
theorem whole_start {p : Program} {e : Env} {s : State} {m : MethodId} {below : List Frame} {meth : Method} {c : Code} (l : Launch) {b L : Nat} {xs : Nat → Int32} (hL : L ≤ 3072) (C0 : lw_At p s m meth c b L xs) : W p l e room_1 s m #[Value.ref b] below meth c s.heap [] 0 0 (lw_Z below #[Value.ref b] s) (entryFrame m ([Value.ref b] : List Value).toArray 4) := whole_start_of l C0 (L_start hL)
