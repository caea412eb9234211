/-! Numbers of threads: -1, or below N; what each function leaves as it was. -/
def ix (N : Nat) (x : Int32) : Prop := x = -1 ∨ ∃ t, t < N ∧ x = nI t
theorem ix_m {N : Nat} : ix N (-1) := Or.inl rfl
theorem ix_t {N t : Nat} (h : t < N) : ix N (nI t) := Or.inr ⟨t, h, rfl⟩
theorem tf_over_ix (N : Nat) (σ : St) : ∀ (n t : Nat) (b k : Int32), t + n = N → ix N b → ix N (tf_over σ n t b k) := by
  intro n
  induction n with
  | zero => intro t b k _ h; exact h
  | succ n ih =>
    intro t b k hn h
    unfold tf_over
    split
    · exact ih _ _ _ (by omega) h
    · split
      · exact ih _ _ _ (by omega) h
      · exact ih _ _ _ (by omega) (ix_t (by omega))
theorem tf_next_ix (N : Nat) (σ : St) (top : Int32) : ∀ (n t : Nat) (b : Int32), t + n = N → ix N b → ix N (tf_next σ top n t b) := by
  intro n
  induction n with
  | zero => intro t b _ h; exact h
  | succ n ih =>
    intro t b hn h
    unfold tf_next
    split
    · exact ih _ _ (by omega) h
    · split
      · split
        · exact ih _ _ (by omega) (ix_t (by omega))
        · exact ih _ _ (by omega) h
      · exact ix_t (by omega)
theorem tf_few_ix (N : Nat) (σ : St) (top : Int32) : ∀ (n t : Nat) (b k : Int32), t + n = N → ix N b → ix N (tf_few σ top n t b k) := by
  intro n
  induction n with
  | zero => intro t b k _ h; exact h
  | succ n ih =>
    intro t b k hn h
    unfold tf_few
    split
    · exact ih _ _ _ (by omega) h
    · split
      · exact ih _ _ _ (by omega) (ix_t (by omega))
      · split
        · exact ih _ _ _ (by omega) h
        · exact ih _ _ _ (by omega) (ix_t (by omega))
theorem tf_pick_ix (N : Nat) (σ : St) (top : Int32) : ∀ (n t : Nat) (k : Int32), t + n = N → ix N (tf_pick σ top n t k) := by
  intro n
  induction n with
  | zero => intro t k _; exact ix_m
  | succ n ih =>
    intro t k hn
    unfold tf_pick
    split
    · exact ih _ _ (by omega)
    · split
      · exact ix_t (by omega)
      · exact ih _ _ (by omega)
theorem tf_chA_ix (N : Nat) (σ : St) : ix N (tf_chA N σ) := by
  have h0 : ix N (tf_overdue N σ) := by
    unfold tf_overdue
    split
    · exact ix_m
    · exact tf_over_ix N σ N 0 _ _ (by omega) ix_m
  unfold tf_chA
  split
  · split
    · exact ix_m
    · split
      · exact tf_few_ix N σ _ N 0 _ _ (by omega) ix_m
      · split
        · unfold tf_seedA
          split
          · exact ix_m
          · exact tf_pick_ix N _ _ N 0 _ (by omega)
        · exact tf_next_ix N σ _ N 0 _ (by omega) ix_m
  · exact h0
theorem tf_tailA_ix (N : Nat) (σ : St) : ix N (tf_tailA N σ) := by
  have h := tf_chA_ix N σ
  unfold tf_tailA
  split
  · exact ix_m
  · split
    · exact h
    · split
      · exact h
      · split
        · exact h
        · exact ix_m
theorem tf_goA_ix (N : Nat) (σ : St) (h5 : ix N (σ 0 0 5)) : ix N (tf_goA N σ) := by
  have h := tf_tailA_ix N σ
  unfold tf_goA
  split
  · split
    · exact h
    · split
      · exact h
      · exact h5
  · exact ix_m
theorem ix_cl {N : Nat} {x : Int32} (hN : N ≤ 16) (h : ix N x) (hx : ¬ x = -1) : x.toNatClampNeg < N ∧ x = nI x.toNatClampNeg := by
  rcases h with h | ⟨t, ht, rfl⟩
  · exact absurd h hx
  · rw [nI_clamp (by omega)]
    exact ⟨ht, rfl⟩
/-- see, wait, choose, begin: what they leave -/
theorem tf_see1_k {σ : St} {t a b c : Nat} (h : ¬ (a = 1 ∧ (c = 2 ∨ c = 8))) : tf_see1 σ t a b c = σ a b c := by
  have h2 : ∀ (τ : St) (v : Int32), su τ 1 t 2 v a b c = τ a b c := fun τ v => su_ne (fun q => h ⟨q.1, Or.inl q.2.2⟩)
  have h8 : ∀ (τ : St) (v : Int32), su τ 1 t 8 v a b c = τ a b c := fun τ v => su_ne (fun q => h ⟨q.1, Or.inr q.2.2⟩)
  unfold tf_see1
  repeat' split
  all_goals simp only [h2, h8]
theorem tf_see_k {a b c : Nat} (h : ¬ (a = 1 ∧ (c = 2 ∨ c = 8))) : ∀ (n t : Nat) (σ : St), tf_see n t σ a b c = σ a b c := by
  intro n
  induction n with
  | zero => intro t σ; rfl
  | succ n ih => intro t σ; show tf_see n (t + 1) (tf_see1 σ t) a b c = _; rw [ih, tf_see1_k h]
theorem tf_wt1_k {g : Int32} {σ : St} {t a b c : Nat} (h : ¬ (a = 1 ∧ (c = 4 ∨ c = 5))) : tf_wt1 g σ t a b c = σ a b c := by
  have h2 : ∀ (τ : St) (v : Int32), su τ 1 t 4 v a b c = τ a b c := fun τ v => su_ne (fun q => h ⟨q.1, Or.inl q.2.2⟩)
  have h8 : ∀ (τ : St) (v : Int32), su τ 1 t 5 v a b c = τ a b c := fun τ v => su_ne (fun q => h ⟨q.1, Or.inr q.2.2⟩)
  unfold tf_wt1
  split
  · rfl
  · split
    · rfl
    · rw [h8, h2]
theorem tf_wt_k {g : Int32} {a b c : Nat} (h : ¬ (a = 1 ∧ (c = 4 ∨ c = 5))) : ∀ (n t : Nat) (σ : St), tf_wt g n t σ a b c = σ a b c := by
  intro n
  induction n with
  | zero => intro t σ; rfl
  | succ n ih => intro t σ; show tf_wt g n (t + 1) (tf_wt1 g σ t) a b c = _; rw [ih, tf_wt1_k h]
theorem tf_chS_k {N : Nat} {σ : St} {a b c : Nat} (h : ¬ (a = 0 ∧ b = 0 ∧ c = 3)) : tf_chS N σ a b c = σ a b c := by
  unfold tf_chS tf_seedS
  repeat' split
  all_goals first | rfl | exact su_ne h
theorem tf_p1_k {N : Nat} {σ : St} {a b c : Nat} (h : ¬ (a = 1 ∧ (c = 2 ∨ c = 8))) (h7 : ¬ (a = 0 ∧ b = 0 ∧ c = 7)) : tf_p1 N σ a b c = σ a b c := by
  unfold tf_p1
  rw [tf_see_k h, su_ne h7]
theorem p1_5 {N : Nat} {σ : St} (h : ix N (σ 0 0 5)) : ix N (tf_p1 N σ 0 0 5) := by
  rw [tf_p1_k (by decide) (by decide)]
  exact h
theorem tf_begin_5 {σ : St} {t : Nat} : tf_begin σ t 0 0 5 = nI t := by
  unfold tf_begin
  rw [su_n3 (by decide), su_n1 (by decide), su_n3 (by decide), su_eq]
theorem go_5 {N : Nat} {σ : St} (hN : N ≤ 16) (h : ix N (σ 0 0 5)) : ix N (tf_goS N σ 0 0 5) := by
  have hc : tf_chS N σ 0 0 5 = σ 0 0 5 := tf_chS_k (by decide)
  have ht : ix N (tf_tailS N σ 0 0 5) := by
    unfold tf_tailS
    by_cases h1 : tf_chA N σ = -1
    · rw [if_pos h1, su_n3 (by decide), hc]; exact h
    · rw [if_neg h1]
      split
      · rw [hc]; exact h
      · split
        · rw [hc]; exact h
        · split
          · rw [hc]; exact h
          · rw [tf_begin_5]
            exact ix_t (ix_cl hN (tf_chA_ix N σ) h1).1
  unfold tf_goS
  split
  · split
    · exact ht
    · split
      · exact ht
      · exact h
  · rw [su_n3 (by decide), su_n3 (by decide)]; exact h
theorem tf_let_5 {σ : St} {t : Nat} : tf_let σ t 0 0 5 = -1 := by
  unfold tf_let
  rw [su_eq]
theorem pl_5 {N : Nat} {σ : St} (hN : N ≤ 16) (h : ix N (σ 0 0 5)) : ix N (tf_plS N σ 0 0 5) := by
  unfold tf_plS
  split
  · rw [tf_wt_k (by decide)]; exact go_5 hN (p1_5 h)
  · rw [tf_let_5]; exact ix_m
