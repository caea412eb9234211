theorem i_ll {x y z : Int32} (h : x ≤ y) (h2 : y ≤ z) : x ≤ z := by
  rw [Int32.le_iff_toInt_le] at *; omega
theorem i_tl {x y z : Int32} (h : x < y) (h2 : y ≤ z) : x < z := by
  rw [Int32.le_iff_toInt_le] at h2; rw [Int32.lt_iff_toInt_lt] at *; omega
theorem i_lt {x y z : Int32} (h : x ≤ y) (h2 : y < z) : x < z := by
  rw [Int32.le_iff_toInt_le] at h; rw [Int32.lt_iff_toInt_lt] at *; omega
theorem i_le {x y : Int32} (h : x < y) : x ≤ y := by
  rw [Int32.le_iff_toInt_le]; rw [Int32.lt_iff_toInt_lt] at h; omega
theorem i_rfl {x : Int32} : x ≤ x := by
  rw [Int32.le_iff_toInt_le]; omega
theorem i_irr {x : Int32} : ¬ x < x := by
  rw [Int32.lt_iff_toInt_lt]; omega
theorem i_asy {x y : Int32} (h : x < y) : ¬ y ≤ x := by
  rw [Int32.le_iff_toInt_le]; rw [Int32.lt_iff_toInt_lt] at h; omega
/-- the first of those that have most -/
def mx (c : Nat → Prop) (w : Nat → Int32) (t : Nat) (b : Int32) : Prop := (b = -1 ∧ ∀ i, i < t → ¬ c i) ∨ (∃ k, k < t ∧ b = nI k ∧ c k ∧ (∀ i, i < t → c i → w i ≤ w k) ∧ (∀ i, i < k → c i → w i < w k))
theorem lt_succ_cases {i t : Nat} (h : i < t + 1) : i < t ∨ i = t := by omega
theorem mx_skip {c : Nat → Prop} {w : Nat → Int32} {t : Nat} {b : Int32} (h : mx c w t b) (hc : ¬ c t) : mx c w (t + 1) b := by
  rcases h with ⟨h1, h2⟩ | ⟨k, h1, h2, h3, h4, h5⟩
  · exact Or.inl ⟨h1, fun i hi => by rcases lt_succ_cases hi with q | q; exact h2 i q; rw [q]; exact hc⟩
  · exact Or.inr ⟨k, by omega, h2, h3, fun i hi => by rcases lt_succ_cases hi with q | q; exact h4 i q; rw [q]; exact fun z => absurd z hc, h5⟩
theorem mx_keep {c : Nat → Prop} {w : Nat → Int32} {t k : Nat} (h : mx c w t (nI k)) (ht : t < 2 ^ 31) (hk : k < 2 ^ 31) (hw : w t ≤ w k) : mx c w (t + 1) (nI k) := by
  rcases h with ⟨h1, h2⟩ | ⟨k', h1, h2, h3, h4, h5⟩
  · exact absurd h1 (nI_m1 hk)
  · obtain rfl : k = k' := (nI_eq hk (by omega)).mp h2
    exact Or.inr ⟨k, by omega, rfl, h3, fun i hi hc => by rcases lt_succ_cases hi with q | q; exact h4 i q hc; rw [q]; exact hw, h5⟩
theorem mx_new {c : Nat → Prop} {w : Nat → Int32} {t : Nat} {b : Int32} (h : mx c w t b) (hc : c t) (hw : ∀ k, k < t → b = nI k → w k < w t) : mx c w (t + 1) (nI t) := by
  refine Or.inr ⟨t, by omega, rfl, hc, fun i hi hci => ?_, fun i hi hci => ?_⟩
  · rcases lt_succ_cases hi with q | q
    · rcases h with ⟨h1, h2⟩ | ⟨k, h1, h2, h3, h4, h5⟩
      · exact absurd hci (h2 i q)
      · exact i_le (i_lt (h4 i q hci) (hw k h1 h2))
    · rw [q]; exact i_rfl
  · rcases h with ⟨h1, h2⟩ | ⟨k, h1, h2, h3, h4, h5⟩
    · exact absurd hci (h2 i hi)
    · exact i_lt (h4 i hi hci) (hw k h1 h2)
theorem mx_uniq {c : Nat → Prop} {w : Nat → Int32} {t : Nat} {b b' : Int32} (h : mx c w t b) (h' : mx c w t b') : b = b' := by
  rcases h with ⟨h1, h2⟩ | ⟨k, h1, h2, h3, h4, h5⟩
  · rcases h' with ⟨g1, g2⟩ | ⟨k', g1, g2, g3, g4, g5⟩
    · rw [h1, g1]
    · exact absurd g3 (h2 k' g1)
  · rcases h' with ⟨g1, g2⟩ | ⟨k', g1, g2, g3, g4, g5⟩
    · exact absurd h3 (g2 k h1)
    · have : k = k' := by
        rcases Nat.lt_trichotomy k k' with q | q | q
        · exact absurd (h4 k' g1 g3) (i_asy (g5 k q h3))
        · exact q
        · exact absurd (g4 k h1 h3) (i_asy (h5 k' q g3))
      rw [h2, g2, this]
section Choose
variable {N : Nat} {P M : St}
theorem mf_ov_mx (hN : N ≤ 16) : ∀ (n t : Nat) (b : Int32), t + n = N → mx (fun i => ¬ mf_can M i = 0) (fun i => M 1 i 4) t b → mx (fun i => ¬ mf_can M i = 0) (fun i => M 1 i 4) N (mf_ov M n t b) := by
  intro n
  induction n with
  | zero => intro t b hn h; rw [show t = N by omega] at h; exact h
  | succ n ih =>
    intro t b hn h
    unfold mf_ov
    by_cases hc : mf_can M t = 0
    · rw [if_pos hc]; exact ih _ _ (by omega) (mx_skip h (fun q => q hc))
    · rw [if_neg hc]
      by_cases hb : b < 0
      · rw [if_pos hb]
        refine ih _ _ (by omega) (mx_new h hc (fun k hk hbk => ?_))
        rw [hbk] at hb
        exact absurd hb (nI_pos (by omega))
      · rw [if_neg hb]
        have hk : ∃ k, k < t ∧ b = nI k := by
          rcases h with ⟨h1, h2⟩ | ⟨k, h1, h2, _⟩
          · rw [h1] at hb; exact absurd (by decide) hb
          · exact ⟨k, h1, h2⟩
        obtain ⟨k, hk1, rfl⟩ := hk
        rw [nI_clamp (by omega)]
        by_cases hw : M 1 t 4 ≤ M 1 k 4
        · rw [if_pos hw]; exact ih _ _ (by omega) (mx_keep h (by omega) (by omega) hw)
        · rw [if_neg hw]
          refine ih _ _ (by omega) (mx_new h hc (fun k' hk' hbk => ?_))
          obtain rfl : k = k' := (nI_eq (by omega) (by omega)).mp hbk
          exact i32_lt hw
theorem tf_over_mx (hN : N ≤ 16) (hE : ∀ a b c, ¬ (a = 1 ∧ c = 8) → P a b c = M a b c) (hC : ∀ t, t < N → P 1 t 8 = mf_can M t) (m0 : Int32) : ∀ (n t : Nat) (b k : Int32), t + n = N → mx (fun i => ¬ mf_can M i = 0 ∧ m0 < M 1 i 4) (fun i => M 1 i 4) t b → (b = -1 → k = m0) → (∀ j, j < t → b = nI j → k = M 1 j 4) → mx (fun i => ¬ mf_can M i = 0 ∧ m0 < M 1 i 4) (fun i => M 1 i 4) N (tf_over P n t b k) := by
  intro n
  induction n with
  | zero => intro t b k hn h _ _; rw [show t = N by omega] at h; exact h
  | succ n ih =>
    intro t b k hn h h1 h2
    unfold tf_over
    rw [hC t (by omega), hE 1 t 4 (by omega)]
    by_cases hc : mf_can M t = 0
    · rw [if_pos hc]
      exact ih _ _ _ (by omega) (mx_skip h (fun q => q.1 hc)) h1 (fun j hj hb => by
        rcases h with ⟨g1, _⟩ | ⟨j', g1, g2, _⟩
        · exact absurd (g1.symm.trans hb).symm (nI_m1 (by omega))
        · obtain rfl : j = j' := (nI_eq (by omega) (by omega)).mp (hb.symm.trans g2)
          exact h2 j g1 hb)
    · rw [if_neg hc]
      by_cases hw : M 1 t 4 ≤ k
      · rw [if_pos hw]
        have h3 : ∀ j, j < t + 1 → b = nI j → k = M 1 j 4 := fun j hj hb => by
          rcases h with ⟨g1, _⟩ | ⟨j', g1, g2, _⟩
          · exact absurd (g1.symm.trans hb).symm (nI_m1 (by omega))
          · obtain rfl : j = j' := (nI_eq (by omega) (by omega)).mp (hb.symm.trans g2)
            exact h2 j g1 hb
        refine ih _ _ _ (by omega) ?_ h1 h3
        rcases h with ⟨g1, g2⟩ | ⟨j', g1, g2, g3⟩
        · refine mx_skip (Or.inl ⟨g1, g2⟩) (fun q => ?_)
          rw [h1 g1] at hw
          exact i_asy q.2 hw
        · have hh : mx (fun i => ¬ mf_can M i = 0 ∧ m0 < M 1 i 4) (fun i => M 1 i 4) t (nI j') := by rw [← g2]; exact Or.inr ⟨j', g1, g2, g3⟩
          rw [g2]
          exact mx_keep hh (by omega) (by omega) (by rw [← h2 j' g1 g2]; exact hw)
      · rw [if_neg hw]
        have hlt : k < M 1 t 4 := i32_lt hw
        have hm : m0 < M 1 t 4 := by
          rcases h with ⟨g1, _⟩ | ⟨j', g1, g2, g3, _⟩
          · rw [← h1 g1]; exact hlt
          · have := g3.2
            rw [← h2 j' g1 g2] at this
            exact i_lt (i_le this) hlt
        refine ih _ _ _ (by omega) (mx_new h ⟨hc, hm⟩ (fun j hj hb => by rw [← h2 j hj hb]; exact hlt)) (fun q => absurd q (nI_m1 (by omega))) (fun j hj hb => ?_)
        obtain rfl : t = j := (nI_eq (by omega) (by omega)).mp hb
        rfl
theorem over_eq (hN : N ≤ 16) (hE : ∀ a b c, ¬ (a = 1 ∧ c = 8) → P a b c = M a b c) (hC : ∀ t, t < N → P 1 t 8 = mf_can M t) {B : Nat} (hB : B ≤ 1000) (hb : M 0 0 1 = nI B) : tf_overdue N P = mf_over N M := by
  have e1 : P 0 0 1 = nI B := by rw [hE 0 0 1 (by omega)]; exact hb
  have hov := mf_ov_mx (N := N) (M := M) hN N 0 (-1) (by omega) (Or.inl ⟨rfl, fun i hi => by omega⟩)
  unfold tf_overdue mf_over
  rw [e1, hb]
  rcases Nat.eq_zero_or_pos B with h0 | h0
  · subst h0
    rw [if_pos (show nI 0 = 0 from nI_0), if_pos (show nI 0 ≤ 0 by decide)]
  · rw [if_neg (nI_ne0 h0 (by omega)), if_neg (nI_nle h0 (by omega))]
    have hp : nI B - 1 = nI (B - 1) := by rw [show B = B - 1 + 1 by omega, nI_pred]; rfl
    have hcmp : ∀ x : Int32, nI (B - 1) < x ↔ ¬ x < nI B := by
      intro x
      rw [Int32.lt_iff_toInt_lt, Int32.lt_iff_toInt_lt, nI_toInt (by omega), nI_toInt (by omega)]
      omega
    have hcl := tf_over_mx hN hE hC (nI B - 1) N 0 (-1) (nI B - 1) (by omega) (Or.inl ⟨rfl, fun i hi => by omega⟩) (fun _ => rfl) (fun j hj => by omega)
    rw [hp] at hcl ⊢
    generalize mf_ov M N 0 (-1) = bm at hov ⊢
    rcases hov with ⟨g1, g2⟩ | ⟨k, g1, g2, g3, g4, g5⟩
    · rw [if_pos (show bm < 0 by rw [g1]; decide)]
      refine mx_uniq hcl (Or.inl ⟨rfl, fun i hi q => g2 i hi q.1⟩)
    · subst g2
      rw [if_neg (nI_pos (by omega)), nI_clamp (by omega)]
      by_cases hw : M 1 k 4 < nI B
      · rw [if_pos hw]
        refine mx_uniq hcl (Or.inl ⟨rfl, fun i hi q => ?_⟩)
        exact (hcmp _).mp q.2 (i_lt (g4 i hi q.1) hw)
      · rw [if_neg hw]
        refine mx_uniq hcl (Or.inr ⟨k, g1, rfl, ⟨g3, (hcmp _).mpr hw⟩, fun i hi q => g4 i hi q.1, fun i hi q => g5 i hi q.1⟩)
end Choose
