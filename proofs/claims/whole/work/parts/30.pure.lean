def itr (f : St → Nat → St) : Nat → Nat → St → St
  | 0, _, σ => σ
  | n + 1, t, σ => itr f n (t + 1) (f σ t)
def rowl (f : St → Nat → St) : Prop := (∀ (σ : St) (t a b c : Nat), ¬ (a = 1 ∧ b = t) → f σ t a b c = σ a b c) ∧ (∀ (σ τ : St) (t : Nat), (∀ c, σ 1 t c = τ 1 t c) → (∀ a b c, a ≠ 1 → σ a b c = τ a b c) → ∀ c, f σ t 1 t c = f τ t 1 t c)
theorem itr_out {f : St → Nat → St} (h : rowl f) : ∀ (n t : Nat) (σ : St) (a b c : Nat), ¬ (a = 1 ∧ t ≤ b ∧ b < t + n) → itr f n t σ a b c = σ a b c := by
  intro n
  induction n with
  | zero => intro t σ a b c _; rfl
  | succ n ih =>
    intro t σ a b c hh
    show itr f n (t + 1) (f σ t) a b c = _
    rw [ih _ _ _ _ _ (fun q => hh ⟨q.1, by omega, by omega⟩), h.1 _ _ _ _ _ (fun q => hh ⟨q.1, by omega, by omega⟩)]
theorem itr_in {f : St → Nat → St} (h : rowl f) : ∀ (n t : Nat) (σ : St) (i c : Nat), t ≤ i → i < t + n → itr f n t σ 1 i c = f σ i 1 i c := by
  intro n
  induction n with
  | zero => intro t σ i c h1 h2; omega
  | succ n ih =>
    intro t σ i c h1 h2
    show itr f n (t + 1) (f σ t) 1 i c = _
    by_cases hi : i = t
    · subst hi
      exact itr_out h _ _ _ _ _ _ (fun q => by omega)
    · rw [ih _ _ _ _ (by omega) (by omega)]
      exact h.2 _ _ _ (fun c => h.1 _ _ _ _ _ (fun q => hi q.2)) (fun a b c ha => h.1 _ _ _ _ _ (fun q => ha q.1)) c
theorem see_itr : ∀ (n t : Nat) (σ : St), tf_see n t σ = itr tf_see1 n t σ := by
  intro n
  induction n with
  | zero => intro t σ; rfl
  | succ n ih => intro t σ; exact ih _ _
theorem un_itr : ∀ (n t : Nat) (σ : St), mf_un n t σ = itr mf_un1 n t σ := by
  intro n
  induction n with
  | zero => intro t σ; rfl
  | succ n ih => intro t σ; exact ih _ _
theorem wt_itr (g : Int32) : ∀ (n t : Nat) (σ : St), tf_wt g n t σ = itr (tf_wt1 g) n t σ := by
  intro n
  induction n with
  | zero => intro t σ; rfl
  | succ n ih => intro t σ; exact ih _ _
theorem w_itr (g : Int32) : ∀ (n t : Nat) (σ : St), mf_w g n t σ = itr (mf_w1 g) n t σ := by
  intro n
  induction n with
  | zero => intro t σ; rfl
  | succ n ih => intro t σ; exact ih _ _
theorem su_row1 {σ : St} {t a b c f : Nat} {v : Int32} (h : ¬ (a = 1 ∧ b = t)) : su σ 1 t f v a b c = σ a b c := su_ne (fun q => h ⟨q.1, q.2.1⟩)
theorem see_row : rowl tf_see1 := by
  refine ⟨fun σ t a b c h => ?_, fun σ τ t hr hs c => ?_⟩
  · unfold tf_see1
    repeat' split
    all_goals simp only [su_row1 h]
  · simp [tf_see1, su, hr, hs 0 0 7 (by decide)]
    repeat' split
    all_goals simp [su, hr]
theorem un_row : rowl mf_un1 := by
  refine ⟨fun σ t a b c h => ?_, fun σ τ t hr hs c => ?_⟩
  · unfold mf_un1
    repeat' split
    all_goals simp only [su_row1 h]
  · simp [mf_un1, su, hr, hs 0 0 7 (by decide)]
    repeat' split
    all_goals simp [su, hr]
theorem wt_row (g : Int32) : rowl (tf_wt1 g) := by
  refine ⟨fun σ t a b c h => ?_, fun σ τ t hr hs c => ?_⟩
  · unfold tf_wt1
    repeat' split
    all_goals simp only [su_row1 h]
  · simp [tf_wt1, su, hr]
    repeat' split
    all_goals simp [su, hr]
theorem w_row (g : Int32) : rowl (mf_w1 g) := by
  refine ⟨fun σ t a b c h => ?_, fun σ τ t hr hs c => ?_⟩
  · unfold mf_w1
    repeat' split
    all_goals simp only [su_row1 h]
  · simp [mf_w1, mf_can, su, hr]
    repeat' split
    all_goals simp [su, hr]
/-- behind the waking: both sides -/
theorem p1_eq {N : Nat} {σ : St} {a b c : Nat} (h : ¬ (a = 1 ∧ c = 8)) : tf_p1 N σ a b c = mf_p1 N σ a b c := by
  unfold tf_p1 mf_p1
  rw [see_itr, un_itr]
  by_cases hr : a = 1 ∧ 0 ≤ b ∧ b < 0 + N
  · obtain ⟨rfl, h1, h2⟩ := hr
    have hc : c ≠ 8 := fun q => h ⟨rfl, q⟩
    rw [itr_in see_row _ _ _ _ _ h1 h2, itr_in un_row _ _ _ _ _ h1 h2]
    generalize su σ 0 0 7 (σ 0 0 7 + 1) = ρ
    unfold tf_see1 mf_un1
    by_cases h7 : ρ 0 0 7 < ρ 1 b 2
    · rw [if_pos h7, if_pos h7]
      by_cases h2 : c = 2
      · subst h2
        repeat' split
        all_goals simp [su]
      · repeat' split
        all_goals rw [su_n3 hc, su_n3 h2]
    · rw [if_neg h7, if_neg h7]
      repeat' split
      all_goals rw [su_n3 hc]
  · rw [itr_out see_row _ _ _ _ _ _ hr, itr_out un_row _ _ _ _ _ _ hr]
theorem p1_can {N : Nat} {σ : St} {t : Nat} (ht : t < N) : tf_p1 N σ 1 t 8 = mf_can (mf_p1 N σ) t := by
  have e0 : mf_p1 N σ 1 t 0 = tf_p1 N σ 1 t 0 := (p1_eq (by omega)).symm
  have e2 : mf_p1 N σ 1 t 2 = tf_p1 N σ 1 t 2 := (p1_eq (by omega)).symm
  unfold mf_can
  rw [e0, e2]
  unfold tf_p1
  rw [see_itr, itr_in see_row _ _ _ _ _ (Nat.zero_le t) (by omega), itr_in see_row _ _ _ _ _ (Nat.zero_le t) (by omega), itr_in see_row _ _ _ _ _ (Nat.zero_le t) (by omega)]
  generalize su σ 0 0 7 (σ 0 0 7 + 1) = ρ
  unfold tf_see1
  by_cases h7 : ρ 0 0 7 < ρ 1 t 2
  · by_cases h0 : ρ 1 t 0 = 0
    · simp [h7, h0, su]
    · by_cases h2 : ρ 1 t 2 = 0
      · rw [h2] at h7
        simp [h7, h0, h2, su]
      · simp [h7, h0, h2, su]
  · by_cases h0 : ρ 1 t 0 = 0
    · simp [h7, h0, su]
    · simp [h7, h0, su]
