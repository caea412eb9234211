/-- the first of those that have fewest, among lo .. t - 1 -/
def mn (d : Nat → Prop) (h : Nat → Int32) (lo t : Nat) (b : Int32) : Prop := (b = -1 ∧ ∀ i, lo ≤ i → i < t → ¬ d i) ∨ (∃ k, lo ≤ k ∧ k < t ∧ b = nI k ∧ d k ∧ (∀ i, lo ≤ i → i < t → d i → h k ≤ h i) ∧ (∀ i, lo ≤ i → i < k → d i → h k < h i))
theorem mn_uniq {d : Nat → Prop} {h : Nat → Int32} {lo t : Nat} {b b' : Int32} (x : mn d h lo t b) (x' : mn d h lo t b') : b = b' := by
  rcases x with ⟨h1, h2⟩ | ⟨k, h0, h1, h2, h3, h4, h5⟩
  · rcases x' with ⟨g1, g2⟩ | ⟨k', g0, g1, g2, g3, g4, g5⟩
    · rw [h1, g1]
    · exact absurd g3 (h2 k' g0 g1)
  · rcases x' with ⟨g1, g2⟩ | ⟨k', g0, g1, g2, g3, g4, g5⟩
    · exact absurd h3 (g2 k h0 h1)
    · have : k = k' := by
        rcases Nat.lt_trichotomy k k' with q | q | q
        · exact absurd (h4 k' g0 g1 g3) (fun z => i_asy (g5 k h0 q h3) z)
        · exact q
        · exact absurd (g4 k h0 h1 h3) (fun z => i_asy (h5 k' g0 q g3) z)
      rw [h2, g2, this]
section Choose2
variable {N : Nat} {P M : St}
def cdn (M : St) (top : Int32) (i : Nat) : Prop := ¬ mf_can M i = 0 ∧ M 1 i 1 = top
theorem cand_iff (hE : ∀ a b c, ¬ (a = 1 ∧ c = 8) → P a b c = M a b c) (hC : ∀ t, t < N → P 1 t 8 = mf_can M t) {top : Int32} {t : Nat} (ht : t < N) : ¬ tf_cand P t top = 0 ↔ cdn M top t := by
  unfold tf_cand cdn
  rw [hC t ht, hE 1 t 1 (by omega)]
  by_cases h : mf_can M t = 0
  · simp [h]
  · by_cases h2 : M 1 t 1 = top
    · simp [h, h2]
    · simp [h, h2]
theorem tf_few_mn (hN : N ≤ 16) (hE : ∀ a b c, ¬ (a = 1 ∧ c = 8) → P a b c = M a b c) (hC : ∀ t, t < N → P 1 t 8 = mf_can M t) (top : Int32) : ∀ (n t : Nat) (b k : Int32), t + n = N → mn (cdn M top) (fun i => tf_has P i) 0 t b → (∀ j, j < t → b = nI j → k = tf_has P j) → mn (cdn M top) (fun i => tf_has P i) 0 N (tf_few P top n t b k) := by
  intro n
  induction n with
  | zero => intro t b k hn h _; rw [show t = N by omega] at h; exact h
  | succ n ih =>
    intro t b k hn h h2
    have hci := cand_iff hE hC (top := top) (t := t) (by omega)
    have hk : ∀ j, j < t + 1 → b = nI j → k = tf_has P j := fun j hj hb => by
      rcases h with ⟨g1, _⟩ | ⟨j', _, g1, g2, _⟩
      · exact absurd (g1.symm.trans hb).symm (nI_m1 (by omega))
      · obtain rfl : j = j' := (nI_eq (by omega) (by omega)).mp (hb.symm.trans g2)
        exact h2 j g1 hb
    have hnew : cdn M top t → (∀ j, j < t → b = nI j → tf_has P t < tf_has P j) → mn (cdn M top) (fun i => tf_has P i) 0 (t + 1) (nI t) := by
      intro hd hlt
      refine Or.inr ⟨t, Nat.zero_le t, by omega, rfl, hd, fun i _ hi hdi => ?_, fun i _ hi hdi => ?_⟩
      · rcases lt_succ_cases hi with q | q
        · rcases h with ⟨g1, g2⟩ | ⟨j, _, g1, g2, g3, g4, g5⟩
          · exact absurd hdi (g2 i (Nat.zero_le i) q)
          · exact i_le (i_tl (hlt j g1 g2) (g4 i (Nat.zero_le i) q hdi))
        · rw [q]; exact i_rfl
      · rcases h with ⟨g1, g2⟩ | ⟨j, _, g1, g2, g3, g4, g5⟩
        · exact absurd hdi (g2 i (Nat.zero_le i) hi)
        · exact i_tl (hlt j g1 g2) (g4 i (Nat.zero_le i) hi hdi)
    have hself : ∀ j, j < t + 1 → nI t = nI j → tf_has P t = tf_has P j := fun j hj hb => by
      obtain rfl : t = j := (nI_eq (by omega) (by omega)).mp hb
      rfl
    unfold tf_few
    by_cases hc : tf_cand P t top = 0
    · rw [if_pos hc]
      refine ih _ _ _ (by omega) ?_ hk
      have hnd : ¬ cdn M top t := fun q => (hci.mpr q) hc
      rcases h with ⟨g1, g2⟩ | ⟨j, g0, g1, g2, g3, g4, g5⟩
      · exact Or.inl ⟨g1, fun i hi0 hi => by rcases lt_succ_cases hi with q | q; exact g2 i hi0 q; rw [q]; exact hnd⟩
      · exact Or.inr ⟨j, g0, by omega, g2, g3, fun i hi0 hi hd => by rcases lt_succ_cases hi with q | q; exact g4 i hi0 q hd; rw [q] at hd; exact absurd hd hnd, g5⟩
    · rw [if_neg hc]
      have hd := hci.mp hc
      by_cases hb : b = -1
      · rw [if_pos hb]
        exact ih _ _ _ (by omega) (hnew hd (fun j hj hbj => absurd (hb.symm.trans hbj).symm (nI_m1 (by omega)))) hself
      · rw [if_neg hb]
        by_cases hw : k ≤ tf_has P t
        · rw [if_pos hw]
          refine ih _ _ _ (by omega) ?_ hk
          rcases h with ⟨g1, g2⟩ | ⟨j, g0, g1, g2, g3, g4, g5⟩
          · exact absurd g1 hb
          · exact Or.inr ⟨j, g0, by omega, g2, g3, fun i hi0 hi hd => by rcases lt_succ_cases hi with q | q; exact g4 i hi0 q hd; rw [q]; show tf_has P j ≤ tf_has P t; rw [← h2 j g1 g2]; exact hw, g5⟩
        · rw [if_neg hw]
          exact ih _ _ _ (by omega) (hnew hd (fun j hj hbj => by rw [← h2 j hj hbj]; exact i32_lt hw)) hself
theorem mf_few_mn (hN : N ≤ 16) (top y : Int32) : ∀ (n : Nat) (b : Int32), n ≤ N → mn (cdn M top) (fun i => mf_v M y i) n N b → mn (cdn M top) (fun i => mf_v M y i) 0 N (mf_few M top y n b) := by
  intro n
  induction n with
  | zero => intro b _ h; exact h
  | succ n ih =>
    intro b hn h
    unfold mf_few
    have hskip : ¬ cdn M top n → mn (cdn M top) (fun i => mf_v M y i) n N b := by
      intro hnd
      rcases h with ⟨g1, g2⟩ | ⟨j, g0, g1, g2, g3, g4, g5⟩
      · refine Or.inl ⟨g1, fun i hi0 hi => ?_⟩
        by_cases q : i = n
        · rw [q]; exact hnd
        · exact g2 i (by omega) hi
      · refine Or.inr ⟨j, by omega, g1, g2, g3, fun i hi0 hi hd => ?_, fun i hi0 hi hd => ?_⟩
        · by_cases q : i = n
          · rw [q] at hd; exact absurd hd hnd
          · exact g4 i (by omega) hi hd
        · by_cases q : i = n
          · rw [q] at hd; exact absurd hd hnd
          · exact g5 i (by omega) hi hd
    by_cases hc : mf_can M n = 0
    · rw [if_pos hc]; exact ih _ (by omega) (hskip (fun q => q.1 hc))
    · rw [if_neg hc]
      by_cases ht : M 1 n 1 = top
      · rw [if_pos ht]
        by_cases hb : mf_b M y b (mf_v M y n) < mf_v M y n
        · rw [if_pos hb]
          refine ih _ (by omega) ?_
          rcases h with ⟨g1, g2⟩ | ⟨j, g0, g1, g2, g3, g4, g5⟩
          · rw [g1] at hb
            exact absurd hb (by rw [mf_b, if_neg (by decide)]; exact i_irr)
          · subst g2
            rw [mf_b, if_pos (nI_pos' (by omega)), nI_clamp (by omega)] at hb
            refine Or.inr ⟨j, by omega, g1, rfl, g3, fun i hi0 hi hd => ?_, fun i hi0 hi hd => ?_⟩
            · by_cases q : i = n
              · rw [q]; exact i_le hb
              · exact g4 i (by omega) hi hd
            · by_cases q : i = n
              · rw [q]; exact hb
              · exact g5 i (by omega) hi hd
        · rw [if_neg hb]
          refine ih _ (by omega) (Or.inr ⟨n, Nat.le_refl n, by omega, rfl, ⟨hc, ht⟩, fun i hi0 hi hd => ?_, fun i hi0 hi hd => by omega⟩)
          by_cases q : i = n
          · rw [q]; exact i_rfl
          · rcases h with ⟨g1, g2⟩ | ⟨j, g0, g1, g2, g3, g4, g5⟩
            · exact absurd hd (g2 i (by omega) hi)
            · subst g2
              rw [mf_b, if_pos (nI_pos' (by omega)), nI_clamp (by omega)] at hb
              exact i_ll (i32_le hb) (g4 i (by omega) hi hd)
      · rw [if_neg ht]; exact ih _ (by omega) (hskip (fun q => ht q.2))
/-- the first one behind the last that went, round -/
def tn (d : Nat → Prop) (N L : Nat) (r : Int32) : Prop := (r = -1 ∧ ∀ i, i < N → ¬ d i) ∨ (∃ k, k < N ∧ r = nI k ∧ d k ∧ ((L ≤ k ∧ ∀ i, L ≤ i → i < k → ¬ d i) ∨ (k < L ∧ (∀ i, L ≤ i → i < N → ¬ d i) ∧ ∀ i, i < k → ¬ d i)))
theorem tn_uniq {d : Nat → Prop} {N L : Nat} {r r' : Int32} (x : tn d N L r) (x' : tn d N L r') : r = r' := by
  rcases x with ⟨h1, h2⟩ | ⟨k, h1, h2, h3, h4⟩
  · rcases x' with ⟨g1, g2⟩ | ⟨k', g1, g2, g3, g4⟩
    · rw [h1, g1]
    · exact absurd g3 (h2 k' g1)
  · rcases x' with ⟨g1, g2⟩ | ⟨k', g1, g2, g3, g4⟩
    · exact absurd h3 (g2 k h1)
    · have : k = k' := by
        rcases h4 with ⟨a1, a2⟩ | ⟨a1, a2, a3⟩
        · rcases g4 with ⟨b1, b2⟩ | ⟨b1, b2, b3⟩
          · rcases Nat.lt_trichotomy k k' with q | q | q
            · exact absurd h3 (b2 k a1 q)
            · exact q
            · exact absurd g3 (a2 k' b1 q)
          · exact absurd h3 (b2 k a1 h1)
        · rcases g4 with ⟨b1, b2⟩ | ⟨b1, b2, b3⟩
          · exact absurd g3 (a2 k' b1 g1)
          · rcases Nat.lt_trichotomy k k' with q | q | q
            · exact absurd h3 (b3 k q)
            · exact q
            · exact absurd g3 (a3 k' q)
      rw [h2, g2, this]
theorem mf_turn_tn (hL : mf_L M ≤ N) (h0 : 0 < N) (top : Int32) : ∀ (n j : Nat), j + n = N → (∀ i, i < j → ¬ cdn M top ((mf_L M + i) % N)) → tn (cdn M top) N (mf_L M) (mf_turn M N top n j) := by
  generalize hLL : mf_L M = L at hL
  have key : ∀ i, i < N → ∃ j, j < N ∧ (L + j) % N = i ∧ (L ≤ i → j = i - L) ∧ (i < L → j = N - L + i) := by
    intro i hi
    by_cases q : L ≤ i
    · exact ⟨i - L, by omega, by rw [show L + (i - L) = i by omega, Nat.mod_eq_of_lt hi], fun _ => rfl, fun z => by omega⟩
    · exact ⟨N - L + i, by omega, by rw [show L + (N - L + i) = N + i by omega, Nat.add_mod_left, Nat.mod_eq_of_lt hi], fun z => by omega, fun _ => rfl⟩
  intro n
  induction n with
  | zero =>
    intro j hj h
    refine Or.inl ⟨rfl, fun i hi => ?_⟩
    obtain ⟨j', h1, h2, _⟩ := key i hi
    have := h j' (by omega)
    rw [h2] at this
    exact this
  | succ n ih =>
    intro j hj h
    unfold mf_turn
    rw [hLL]
    have hsk : ¬ cdn M top ((L + j) % N) → tn (cdn M top) N L (mf_turn M N top n (j + 1)) := fun hd => ih _ (by omega) (fun i hi => by
      rcases lt_succ_cases hi with q | q
      · exact h i q
      · rw [q]; exact hd)
    by_cases hc : mf_can M ((L + j) % N) = 0
    · rw [if_pos hc]; exact hsk (fun q => q.1 hc)
    · rw [if_neg hc]
      by_cases ht : M 1 ((L + j) % N) 1 = top
      · rw [if_pos ht]
        refine Or.inr ⟨(L + j) % N, Nat.mod_lt _ h0, rfl, ⟨hc, ht⟩, ?_⟩
        have hno : ∀ i, i < N → (L ≤ i → i - L < j) → (i < L → N - L + i < j) → ¬ cdn M top i := by
          intro i hi q1 q2
          obtain ⟨j', h1, h2, h3, h4⟩ := key i hi
          have := h j' (by
            by_cases q : L ≤ i
            · rw [h3 q]; exact q1 q
            · rw [h4 (by omega)]; exact q2 (by omega))
          rw [h2] at this
          exact this
        by_cases q : L + j < N
        · have e : (L + j) % N = L + j := Nat.mod_eq_of_lt q
          rw [e]
          exact Or.inl ⟨by omega, fun i h1 h2 => hno i (by omega) (fun _ => by omega) (fun z => by omega)⟩
        · have e : (L + j) % N = L + j - N := by rw [Nat.mod_eq_sub_mod (by omega), Nat.mod_eq_of_lt (by omega)]
          rw [e]
          exact Or.inr ⟨by omega, fun i h1 h2 => hno i h2 (fun _ => by omega) (fun z => by omega), fun i h1 => hno i (by omega) (fun _ => by omega) (fun _ => by omega)⟩
      · rw [if_neg ht]; exact hsk (fun q => ht q.2)
theorem tf_next_tn (hN : N ≤ 16) (hE : ∀ a b c, ¬ (a = 1 ∧ c = 8) → P a b c = M a b c) (hC : ∀ t, t < N → P 1 t 8 = mf_can M t) {L : Nat} (hcmp : ∀ t, t < N → (nI t ≤ P 0 0 4 ↔ t < L)) (top : Int32) : ∀ (n t : Nat) (b : Int32), t + n = N → (∀ i, L ≤ i → i < t → ¬ cdn M top i) → ((b = -1 ∧ ∀ i, i < t → ¬ cdn M top i) ∨ (∃ k, k < t ∧ k < L ∧ b = nI k ∧ cdn M top k ∧ ∀ i, i < k → ¬ cdn M top i)) → tn (cdn M top) N L (tf_next P top n t b) := by
  intro n
  induction n with
  | zero =>
    intro t b hn h h2
    rcases h2 with ⟨g1, g2⟩ | ⟨k, g1, g2, g3, g4, g5⟩
    · exact Or.inl ⟨g1, fun i hi => g2 i (by omega)⟩
    · exact Or.inr ⟨k, by omega, g3, g4, Or.inr ⟨g2, fun i h1 h2 => h i h1 (by omega), g5⟩⟩
  | succ n ih =>
    intro t b hn h h2
    have hci := cand_iff hE hC (top := top) (t := t) (by omega)
    unfold tf_next
    by_cases hc : tf_cand P t top = 0
    · rw [if_pos hc]
      have hnd : ¬ cdn M top t := fun q => (hci.mpr q) hc
      refine ih _ _ (by omega) (fun i h1 h2 => by rcases lt_succ_cases h2 with q | q; exact h i h1 q; rw [q]; exact hnd) ?_
      rcases h2 with ⟨g1, g2⟩ | ⟨k, g1, g2, g3, g4, g5⟩
      · exact Or.inl ⟨g1, fun i hi => by rcases lt_succ_cases hi with q | q; exact g2 i q; rw [q]; exact hnd⟩
      · exact Or.inr ⟨k, by omega, g2, g3, g4, g5⟩
    · rw [if_neg hc]
      have hd := hci.mp hc
      by_cases hle : nI t ≤ P 0 0 4
      · rw [if_pos hle]
        have htL := (hcmp t (by omega)).mp hle
        have hh : ∀ i, L ≤ i → i < t + 1 → ¬ cdn M top i := fun i h1 h2 => by omega
        rcases h2 with ⟨g1, g2⟩ | ⟨k, g1, g2, g3, g4, g5⟩
        · rw [if_pos g1]
          exact ih _ _ (by omega) hh (Or.inr ⟨t, by omega, htL, rfl, hd, g2⟩)
        · rw [if_neg (by rw [g3]; exact nI_m1 (by omega))]
          exact ih _ _ (by omega) hh (Or.inr ⟨k, by omega, g2, g3, g4, g5⟩)
      · rw [if_neg hle]
        have htL : L ≤ t := by
          rcases Nat.lt_or_ge t L with q | q
          · exact absurd ((hcmp t (by omega)).mpr q) hle
          · exact q
        exact Or.inr ⟨t, by omega, rfl, hd, Or.inl ⟨htL, fun i h1 h2 => h i h1 h2⟩⟩
end Choose2
