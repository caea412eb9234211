section Choose3
variable {N : Nat} {P M : St}
theorem top_eq (hE : ∀ a b c, ¬ (a = 1 ∧ c = 8) → P a b c = M a b c) (hC : ∀ t, t < N → P 1 t 8 = mf_can M t) : ∀ (n t : Nat) (k : Int32), t + n = N → tf_top P n t k = mf_top M n t k := by
  intro n
  induction n with
  | zero => intro t k _; rfl
  | succ n ih =>
    intro t k hn
    unfold tf_top mf_top
    rw [hC t (by omega), hE 1 t 1 (by omega), ih _ _ (by omega), ih _ _ (by omega)]
theorem top_at : ∀ (n t : Nat) (k : Int32), mf_top M n t k = k ∨ ∃ i, t ≤ i ∧ i < t + n ∧ ¬ mf_can M i = 0 ∧ mf_top M n t k = M 1 i 1 := by
  intro n
  induction n with
  | zero => intro t k; exact Or.inl rfl
  | succ n ih =>
    intro t k
    unfold mf_top
    have h1 : ∀ k, mf_top M n (t + 1) k = k ∨ ∃ i, t ≤ i ∧ i < t + (n + 1) ∧ ¬ mf_can M i = 0 ∧ mf_top M n (t + 1) k = M 1 i 1 := fun k => by
      rcases ih (t + 1) k with h | ⟨i, h1, h2, h3⟩
      · exact Or.inl h
      · exact Or.inr ⟨i, by omega, by omega, h3⟩
    by_cases hc : mf_can M t = 0
    · rw [if_pos hc]; exact h1 k
    · rw [if_neg hc]
      by_cases hr : M 1 t 1 ≤ k
      · rw [if_pos hr]; exact h1 k
      · rw [if_neg hr]
        rcases h1 (M 1 t 1) with h | h
        · exact Or.inr ⟨t, Nat.le_refl t, by omega, hc, h⟩
        · exact Or.inr h
theorem top_ge : ∀ (n t : Nat) (k : Int32), k ≤ mf_top M n t k ∧ ∀ i, t ≤ i → i < t + n → ¬ mf_can M i = 0 → M 1 i 1 ≤ mf_top M n t k := by
  intro n
  induction n with
  | zero => intro t k; exact ⟨i_rfl, fun i h1 h2 => by omega⟩
  | succ n ih =>
    intro t k
    unfold mf_top
    have hs : ∀ k', (¬ mf_can M t = 0 → M 1 t 1 ≤ mf_top M n (t + 1) k') → ∀ i, t ≤ i → i < t + (n + 1) → ¬ mf_can M i = 0 → M 1 i 1 ≤ mf_top M n (t + 1) k' := fun k' h i h1 h2 hc => by
      by_cases q : i = t
      · rw [q] at hc ⊢; exact h hc
      · exact (ih (t + 1) k').2 i (by omega) (by omega) hc
    by_cases hc : mf_can M t = 0
    · rw [if_pos hc]; exact ⟨(ih _ _).1, hs k (fun q => absurd hc q)⟩
    · rw [if_neg hc]
      by_cases hr : M 1 t 1 ≤ k
      · rw [if_pos hr]; exact ⟨(ih _ _).1, hs k (fun _ => i_ll hr (ih _ _).1)⟩
      · rw [if_neg hr]; exact ⟨i_ll (i_le (i32_lt hr)) (ih _ _).1, hs _ (fun _ => (ih _ _).1)⟩
theorem cnt_eq (hE : ∀ a b c, ¬ (a = 1 ∧ c = 8) → P a b c = M a b c) (hC : ∀ t, t < N → P 1 t 8 = mf_can M t) (top : Int32) : ∀ (n t : Nat) (k : Int32), t + n = N → tf_cnt P top n t k = mf_cnt M top n t k := by
  intro n
  induction n with
  | zero => intro t k _; rfl
  | succ n ih =>
    intro t k hn
    unfold tf_cnt mf_cnt tf_cand
    rw [hC t (by omega), hE 1 t 1 (by omega), ih _ _ (by omega), ih _ _ (by omega), Int32.add_zero]
    by_cases hc : mf_can M t = 0
    · simp [hc]
    · by_cases hr : M 1 t 1 = top
      · simp [hc, hr]
      · simp [hc, hr]
theorem pick_eq (hE : ∀ a b c, ¬ (a = 1 ∧ c = 8) → P a b c = M a b c) (hC : ∀ t, t < N → P 1 t 8 = mf_can M t) (top : Int32) : ∀ (n t : Nat) (k : Int32), t + n = N → tf_pick P top n t k = mf_pick M top n t k := by
  intro n
  induction n with
  | zero => intro t k _; rfl
  | succ n ih =>
    intro t k hn
    unfold tf_pick mf_pick tf_cand
    rw [hC t (by omega), hE 1 t 1 (by omega), ih _ _ (by omega), ih _ _ (by omega)]
    by_cases hc : mf_can M t = 0
    · simp [hc]
    · by_cases hr : M 1 t 1 = top
      · simp [hc, hr]
      · simp [hc, hr]
theorem cnt_pos (top : Int32) : ∀ (n t k : Nat), ∃ m, m ≤ n ∧ mf_cnt M top n t (nI k) = nI (k + m) ∧ ((∃ i, t ≤ i ∧ i < t + n ∧ cdn M top i) → 1 ≤ m) := by
  intro n
  induction n with
  | zero => intro t k; exact ⟨0, Nat.le_refl 0, rfl, fun ⟨i, h1, h2, _⟩ => by omega⟩
  | succ n ih =>
    intro t k
    unfold mf_cnt
    have hs : ¬ cdn M top t → ∃ m, m ≤ n + 1 ∧ mf_cnt M top n (t + 1) (nI k + 0) = nI (k + m) ∧ ((∃ i, t ≤ i ∧ i < t + (n + 1) ∧ cdn M top i) → 1 ≤ m) := by
      intro hd
      obtain ⟨m, h1, h2, h3⟩ := ih (t + 1) k
      rw [Int32.add_zero]
      refine ⟨m, by omega, h2, fun ⟨i, g1, g2, g3⟩ => h3 ⟨i, ?_, by omega, g3⟩⟩
      by_cases q : i = t
      · rw [q] at g3; exact absurd g3 hd
      · omega
    by_cases hc : mf_can M t = 0
    · rw [if_pos hc]; exact hs (fun q => q.1 hc)
    · rw [if_neg hc]
      by_cases hr : M 1 t 1 = top
      · rw [if_pos hr, nI_1]
        obtain ⟨m, h1, h2, h3⟩ := ih (t + 1) (k + 1)
        exact ⟨m + 1, by omega, by rw [h2, show k + 1 + m = k + (m + 1) by omega], fun _ => by omega⟩
      · rw [if_neg hr]; exact hs (fun q => hr q.2)
theorem cnt_ne (hN : N ≤ 16) (h : 0 ≤ mf_top M N 0 (-1)) : ¬ mf_cnt M (mf_top M N 0 (-1)) N 0 0 = 0 := by
  rcases top_at (M := M) N 0 (-1) with h1 | ⟨i, h1, h2, h3, h4⟩
  · rw [h1] at h; exact absurd h (by decide)
  · obtain ⟨m, g1, g2, g3⟩ := cnt_pos (M := M) (mf_top M N 0 (-1)) N 0 0
    have := g3 ⟨i, h1, h2, h3, h4.symm⟩
    rw [show (0 : Int32) = nI 0 from rfl, g2]
    intro q
    have := (nI_eq (by omega) (by omega)).mp q
    omega
theorem ch_eq (hN : N ≤ 16) (h0 : 0 < N) (hE : ∀ a b c, ¬ (a = 1 ∧ c = 8) → P a b c = M a b c) (hC : ∀ t, t < N → P 1 t 8 = mf_can M t) {B r : Nat} (hB : B ≤ 1000) (hb : M 0 0 1 = nI B) (hr : r ≤ 3) (hk : M 0 0 0 = nI r) (hra : ∀ t, t < N → 0 ≤ M 1 t 1) (h4 : ix N (M 0 0 4)) :
    tf_chA N P = mf_chA N M ∧ ∀ a b c, ¬ (a = 1 ∧ c = 8) → tf_chS N P a b c = mf_chS N M a b c := by
  have hov := over_eq hN hE hC hB hb
  have htop := top_eq hE hC N 0 (-1) (by omega)
  have e0 : P 0 0 0 = nI r := by rw [hE 0 0 0 (by omega)]; exact hk
  have hO := mf_over_ix N M
  unfold tf_chA mf_chA tf_chS mf_chS
  rw [hov, htop, e0, hk]
  by_cases hany : ∃ i, i < N ∧ ¬ mf_can M i = 0
  · obtain ⟨i, hi, hci⟩ := hany
    have hT : 0 ≤ mf_top M N 0 (-1) := i_ll (hra i hi) ((top_ge N 0 (-1)).2 i (Nat.zero_le i) (by omega) hci)
    have hT1 : ¬ mf_top M N 0 (-1) = -1 := fun q => by rw [q] at hT; exact absurd hT (by decide)
    have hne := cnt_ne hN hT
    rw [if_pos hT, if_neg hT1, if_pos hT]
    by_cases hO1 : mf_over N M = -1
    · have hO2 : mf_over N M < 0 := by rw [hO1]; decide
      rw [if_pos hO1, if_pos hO1, if_pos hO2, if_pos hO2, if_neg hT1]
      generalize hTT : mf_top M N 0 (-1) = T at *
      have hL : mf_L M ≤ N := by
        unfold mf_L
        by_cases q : M 0 0 4 = -1
        · rw [if_pos q]; omega
        · rw [if_neg q]; have := (ix_cl hN h4 q).1; omega
      rcases (show r = 0 ∨ r = 1 ∨ r = 2 ∨ r = 3 by omega) with rfl | rfl | rfl | rfl
      · refine ⟨?_, fun a b c h => ?_⟩
        · rw [if_neg (by decide), if_neg (by decide), if_pos (by decide)]
          refine tn_uniq (tf_next_tn hN hE hC (L := mf_L M) (fun t ht => ?_) T N 0 (-1) (by omega) (fun i h1 h2 => by omega) (Or.inl ⟨rfl, fun i h1 => by omega⟩)) (mf_turn_tn hL h0 T N 0 (by omega) (fun i h1 => by omega))
          rw [hE 0 0 4 (by omega)]
          unfold mf_L
          by_cases q : M 0 0 4 = -1
          · rw [if_pos q, q]
            constructor
            · intro z; exact absurd z (fun z => absurd (i_lt z (by decide : (-1 : Int32) < 0)) (nI_pos (by omega)))
            · intro z; omega
          · rw [if_neg q]
            obtain ⟨g1, g2⟩ := ix_cl hN h4 q
            rw [g2, nI_leI (by omega) (by omega), ← g2]
            omega
        · rw [if_neg (by decide), if_neg (by decide), if_pos (by decide)]; exact hE a b c h
      · refine ⟨?_, fun a b c h => ?_⟩
        · rw [if_pos (by decide), if_neg (by decide), if_neg (by decide)]
          have hh : (fun i => tf_has P i) = (fun i => mf_v M (mf_y M) i) := by
            funext i
            have hy : mf_y M = 0 := by unfold mf_y; rw [hk, if_neg (show ¬ nI 1 = 2 by decide)]
            unfold tf_has mf_v
            rw [hy, e0, if_pos (show nI 1 = 1 from rfl), if_pos rfl, hE 1 i 6 (by omega)]
          have x1 := tf_few_mn hN hE hC T N 0 (-1) 0 (by omega) (Or.inl ⟨rfl, fun i h1 h2 => by omega⟩) (fun j h1 => by omega)
          rw [hh] at x1
          exact mn_uniq x1 (mf_few_mn hN T (mf_y M) N (-1) (Nat.le_refl N) (Or.inl ⟨rfl, fun i h1 h2 => by omega⟩))
        · rw [if_pos (by decide), if_neg (by decide), if_neg (by decide)]; exact hE a b c h
      · refine ⟨?_, fun a b c h => ?_⟩
        · rw [if_pos (by decide), if_neg (by decide), if_neg (by decide)]
          have hh : (fun i => tf_has P i) = (fun i => mf_v M (mf_y M) i) := by
            funext i
            have hy : mf_y M = 1 := by unfold mf_y; rw [hk, if_pos (show nI 2 = 2 from rfl)]
            unfold tf_has mf_v
            rw [hy, e0, if_neg (show ¬ nI 2 = 1 by decide), if_neg (show ¬ (1 : Int32) = 0 by decide), hE 1 i 3 (by omega)]
          have x1 := tf_few_mn hN hE hC T N 0 (-1) 0 (by omega) (Or.inl ⟨rfl, fun i h1 h2 => by omega⟩) (fun j h1 => by omega)
          rw [hh] at x1
          exact mn_uniq x1 (mf_few_mn hN T (mf_y M) N (-1) (Nat.le_refl N) (Or.inl ⟨rfl, fun i h1 h2 => by omega⟩))
        · rw [if_pos (by decide), if_neg (by decide), if_neg (by decide)]; exact hE a b c h
      · have hcn := cnt_eq hE hC T N 0 0 (by omega)
        have hx : tf_x P = tf_x M := by unfold tf_x; rw [hE 0 0 3 (by omega)]
        refine ⟨?_, fun a b c h => ?_⟩
        · rw [if_neg (by decide), if_pos (by decide), if_neg (by decide), if_pos (by decide)]
          unfold tf_seedA mf_drA
          rw [hcn, if_neg hne, hx]
          refine pick_eq (N := N) (fun a b c h => ?_) (fun t ht => ?_) T N 0 _ (by omega)
          · unfold su
            rw [hE a b c h]
          · rw [su_n1 (by decide), hC t ht]; rfl
        · rw [if_neg (by decide), if_pos (by decide), if_neg (by decide), if_pos (by decide)]
          unfold tf_seedS
          rw [hcn, if_neg hne, hx]
          unfold su
          rw [hE a b c h]
    · have hO2 : ¬ mf_over N M < 0 := by
        rcases hO with q | ⟨k, hk, q⟩
        · exact absurd q hO1
        · rw [q]; exact nI_pos (by omega)
      rw [if_neg hO1, if_neg hO1, if_neg hO2, if_neg hO2]
      exact ⟨rfl, fun a b c h => hE a b c h⟩
  · have hnone : ∀ i, i < N → mf_can M i = 0 := fun i hi => by
      by_cases q : mf_can M i = 0
      · exact q
      · exact absurd ⟨i, hi, q⟩ hany
    have hT : mf_top M N 0 (-1) = -1 := by
      rcases top_at (M := M) N 0 (-1) with h1 | ⟨i, h1, h2, h3, _⟩
      · exact h1
      · exact absurd (hnone i (by omega)) h3
    have hO1 : mf_over N M = -1 := by
      have h9 : mf_ov M N 0 (-1) = -1 := by
        rcases mf_ov_mx (N := N) (M := M) hN N 0 (-1) (by omega) (Or.inl ⟨rfl, fun i hi => by omega⟩) with ⟨g1, _⟩ | ⟨k, g1, _, g3, _⟩
        · exact g1
        · exact absurd (hnone k g1) g3
      unfold mf_over
      rw [h9, if_pos (show (-1 : Int32) < 0 by decide)]
      split <;> rfl
    rw [hT, if_pos hO1, if_pos hO1, if_pos rfl, if_pos rfl, if_neg (by decide), if_neg (by decide)]
    exact ⟨rfl, fun a b c h => hE a b c h⟩
end Choose3
