theorem wM_eq {ct : Ct} {am : Nat → Nat} {N : Nat} {th : Int32} {σ τ : St} (h : ∀ a b c, ¬ (a = 1 ∧ c = 8) → σ a b c = τ a b c) : wM ct am N th σ = wM ct am N th τ := by
  have s : ∀ k, σ 0 0 k = τ 0 0 k := fun k => h 0 0 k (by omega)
  have c0 : ∀ z, σ 1 z 0 = τ 1 z 0 := fun z => h 1 z 0 (by omega)
  have c1 : ∀ z, σ 1 z 1 = τ 1 z 1 := fun z => h 1 z 1 (by omega)
  have c2 : ∀ z, σ 1 z 2 = τ 1 z 2 := fun z => h 1 z 2 (by omega)
  have c3 : ∀ z, σ 1 z 3 = τ 1 z 3 := fun z => h 1 z 3 (by omega)
  have c4 : ∀ z, σ 1 z 4 = τ 1 z 4 := fun z => h 1 z 4 (by omega)
  have c5 : ∀ z, σ 1 z 5 = τ 1 z 5 := fun z => h 1 z 5 (by omega)
  have c6 : ∀ z, σ 1 z 6 = τ 1 z 6 := fun z => h 1 z 6 (by omega)
  have c7 : ∀ z, σ 1 z 7 = τ 1 z 7 := fun z => h 1 z 7 (by omega)
  have d2 : ∀ y z, σ 2 y z = τ 2 y z := fun y z => h 2 y z (by omega)
  have d3 : ∀ y z, σ 3 y z = τ 3 y z := fun y z => h 3 y z (by omega)
  have d4 : ∀ y z, σ 4 y z = τ 4 y z := fun y z => h 4 y z (by omega)
  have d5 : ∀ y z, σ 5 y z = τ 5 y z := fun y z => h 5 y z (by omega)
  have d6 : ∀ y z, σ 6 y z = τ 6 y z := fun y z => h 6 y z (by omega)
  unfold wM sM fM
  simp only [s, c0, c1, c2, c3, c4, c5, c6, c7, d2, d3, d4, d5, d6]
def pl_it (N : Nat) (σ : St) : Nat → St
  | 0 => σ
  | k + 1 => tf_plS N (pl_it N σ k)
theorem pl_it_s (N : Nat) : ∀ (k : Nat) (σ : St), pl_it N σ (k + 1) = pl_it N (tf_plS N σ) k := by
  intro k
  induction k with
  | zero => intro σ; rfl
  | succ k ih => intro σ; show tf_plS N (pl_it N σ (k + 1)) = tf_plS N (pl_it N (tf_plS N σ) k); rw [ih]
theorem Iv_it {N m : Nat} {σ : St} (hN : N ≤ 16) (h : Iv N m σ) : ∀ k, m + k < 2 ^ 30 → Iv N (m + k) (pl_it N σ k) := by
  intro k
  induction k with
  | zero => intro _; exact h
  | succ k ih => intro hk; exact Iv_play (m := m + k) hN (ih (by omega)) (by omega)
theorem rn_2 (N : Nat) : ∀ (n : Nat) (σ : St) (g : Int32), (tf_rn N n σ g).2 = pl_it N σ n := by
  intro n
  induction n with
  | zero => intro σ g; rfl
  | succ n ih =>
    intro σ g
    rw [pl_it_s]
    unfold tf_rn
    split
    · exact ih _ _
    · exact ih _ _
theorem plS_8 (N : Nat) (σ : St) : tf_plS N σ 0 0 8 = if tf_plA N σ = -1 then σ 0 0 8 else σ 0 0 8 + 1 := by
  have w8 : tf_wt (tf_plA N σ) N 0 (tf_goS N (tf_p1 N σ)) 0 0 8 = σ 0 0 8 := by rw [tf_wt_k (by omega), goS_k (by omega) (by omega), tf_p1_k (by omega) (by omega)]
  unfold tf_plS tf_let
  split
  · exact w8
  · rw [su_n3 (by decide), su_n3 (by decide), su_eq, w8]
theorem rn_1 (N : Nat) : ∀ (n : Nat) (σ : St) (g : Int32), (tf_rn N n σ g).1 + σ 0 0 8 = g + pl_it N σ n 0 0 8 := by
  intro n
  induction n with
  | zero => intro σ g; rfl
  | succ n ih =>
    intro σ g
    rw [pl_it_s]
    unfold tf_rn
    have h8 := plS_8 N σ
    by_cases q : tf_plA N σ = -1
    · rw [if_pos q] at h8 ⊢
      rw [← ih, h8]
    · rw [if_neg q] at h8 ⊢
      have := ih (tf_plS N σ) (g + 1)
      rw [h8] at this
      have e : (tf_rn N n (tf_plS N σ) (g + 1)).1 + σ 0 0 8 + 1 = g + pl_it N (tf_plS N σ) n 0 0 8 + 1 := by
        rw [Int32.add_assoc, this, Int32.add_assoc, Int32.add_comm 1, ← Int32.add_assoc]
      have e2 := congrArg (fun x => x - 1) e
      simpa using e2
theorem rn_v (N n : Nat) (σ : St) : pl_it N σ n 0 0 8 - σ 0 0 8 = (tf_rn N n σ 0).1 := by
  have := rn_1 N n σ 0
  rw [Int32.zero_add] at this
  rw [← this]
  simp
/-- Euclid's way comes to its end -/
theorem fin_mono : ∀ (n : Nat) (a b : Int32), mf_fin n a b → mf_fin (n + 1) a b := by
  intro n
  induction n with
  | zero => intro a b h; exact Or.inl h
  | succ n ih =>
    intro a b h
    rcases h with h | h
    · exact Or.inl h
    · exact Or.inr (ih _ _ h)
theorem fin_of : ∀ (k x y : Nat), x < 2 ^ 31 → y < 2 ^ 31 → y < 2 ^ k → mf_fin (2 * k) (nI x) (nI y) := by
  intro k
  induction k with
  | zero => intro x y hx hy h; rw [show y = 0 by omega]; exact nI_0
  | succ k ih =>
    intro x y hx hy h
    show mf_fin (2 * k + 1 + 1) (nI x) (nI y)
    by_cases hy0 : y = 0
    · exact Or.inl (by rw [hy0]; exact nI_0)
    · refine Or.inr ?_
      rw [pk_rem hx (by omega) hy]
      have hr := Nat.mod_lt x (show 0 < y by omega)
      by_cases hr0 : x % y = 0
      · exact Or.inl (by rw [hr0]; exact nI_0)
      · refine Or.inr ?_
        rw [pk_rem hy (by omega) (by omega)]
        have h1 := Nat.mod_lt y (show 0 < x % y by omega)
        have h2 : y % (x % y) + x % y ≤ y := by
          have := Nat.div_add_mod y (x % y)
          have h3 : 1 ≤ y / (x % y) := (Nat.one_le_div_iff (by omega)).mpr (by omega)
          have h4 : x % y * 1 ≤ x % y * (y / (x % y)) := Nat.mul_le_mul_left _ h3
          omega
        refine ih _ _ (by omega) (by omega) ?_
        rw [Nat.pow_succ] at h
        omega
theorem fin_64 {x y : Nat} (hx : x < 2 ^ 31) (hy : y < 2 ^ 31) : mf_fin 64 (nI x) (nI y) := fin_mono _ _ _ (fin_mono _ _ _ (fin_of 31 x y hx hy hy))
theorem gcd_nz1 : ∀ (n x y : Nat), x < 2 ^ 31 → y < 2 ^ 31 → x ≠ 0 → ¬ tf_gcd n (nI x) (nI y) = 0 := by
  intro n
  induction n with
  | zero => intro x y hx hy h; exact nI_ne0 (by omega) hx
  | succ n ih =>
    intro x y hx hy h
    unfold tf_gcd
    by_cases q : nI y = 0
    · rw [if_pos q]; exact nI_ne0 (by omega) hx
    · rw [if_neg q]
      have hy0 : y ≠ 0 := fun z => q (by rw [z]; exact nI_0)
      rw [pk_rem hx (by omega) hy]
      exact ih _ _ hy (Nat.lt_of_lt_of_le (Nat.mod_lt x (by omega)) (by omega)) hy0
theorem gcd_nz {x y : Nat} (hx : x < 2 ^ 31) (hy : y < 2 ^ 31) (h : y ≠ 0) : ¬ tf_gcd 64 (nI x) (nI y) = 0 := by
  show ¬ (if nI y = 0 then nI x else tf_gcd 63 (nI y) (nI x - nI x / nI y * nI y)) = 0
  rw [if_neg (nI_ne0 (by omega) hy), pk_rem hx (by omega) hy]
  exact gcd_nz1 _ _ _ hy (Nat.lt_of_lt_of_le (Nat.mod_lt x (by omega)) (by omega)) h
theorem sh_hyp {N m t : Nat} {σ : St} (h : Iv N m σ) (hm : m < 2 ^ 30) (ht : t < N) : mf_fin 64 (σ 1 t 6) (σ 0 0 8) ∧ (¬ σ 0 0 8 = 0 → ¬ tf_gcd 64 (σ 1 t 6) (σ 0 0 8) = 0) := by
  obtain ⟨_, _, _, _, _, _, _, ⟨G, hG, hg, hw⟩⟩ := h
  obtain ⟨w, h1, h2⟩ := hw t ht
  rw [hg, h2]
  exact ⟨fin_64 (by omega) (by omega), fun q => gcd_nz (by omega) (by omega) (fun z => q (by rw [z]; exact nI_0))⟩
theorem sh_eq {N m t u : Nat} {σ : St} (h : Iv N m σ) (hm : m < 2 ^ 30) (ht : t < N) (hu : u < 2) : mf_shA σ t (nI u) = tf_shA σ t (nI u) := by
  obtain ⟨_, hz⟩ := sh_hyp h hm ht
  obtain ⟨_, _, _, _, _, _, _, ⟨G, hG, hg, hw⟩⟩ := h
  obtain ⟨w, h1, h2⟩ := hw t ht
  unfold mf_shA tf_shA
  by_cases q : σ 0 0 8 = 0
  · have hG0 : G = 0 := by
      rw [hg] at q
      exact (nI_eq (by omega) (by omega)).mp (q.trans nI_0.symm)
    have hw0 : σ 1 t 6 = 0 := by rw [h2, show w = 0 by omega]; exact nI_0
    have hg0 : tf_gcd 64 (σ 1 t 6) (σ 0 0 8) = 0 := by rw [hw0, q]; rfl
    rw [if_pos q, if_pos hg0]
    rcases (show u = 0 ∨ u = 1 by omega) with rfl | rfl
    · rw [if_pos nI_0]; rfl
    · rw [if_neg (show ¬ nI 1 = 0 by decide)]; rfl
  · rw [if_neg q, if_neg (hz q)]
/-- queues -/
theorem ent_last (σ : St) (q : Nat) (th : Int32) : ∀ (n k : Nat) (h : Int32), tf_ent σ q th (n + 1) k h = if σ 4 q (k + n) = th then tf_ent σ q th n k h + 1 else tf_ent σ q th n k h := by
  intro n
  induction n with
  | zero => intro k h; rfl
  | succ n ih =>
    intro k h
    have e := fun h => ih (k + 1) h
    show (if σ 4 q k = th then tf_ent σ q th (n + 1) (k + 1) (h + 1) else tf_ent σ q th (n + 1) (k + 1) h) = _
    rw [e, e, show k + 1 + n = k + (n + 1) by omega]
    show _ = if σ 4 q (k + (n + 1)) = th then (if σ 4 q k = th then tf_ent σ q th n (k + 1) (h + 1) else tf_ent σ q th n (k + 1) h) + 1 else (if σ 4 q k = th then tf_ent σ q th n (k + 1) (h + 1) else tf_ent σ q th n (k + 1) h)
    by_cases q1 : σ 4 q k = th
    · simp only [if_pos q1]
    · simp only [if_neg q1]
theorem ent_cg (σ τ : St) (q : Nat) (th : Int32) : ∀ (n k : Nat) (h : Int32), (∀ j, k ≤ j → j < k + n → σ 4 q j = τ 4 q j) → tf_ent σ q th n k h = tf_ent τ q th n k h := by
  intro n
  induction n with
  | zero => intro k h _; rfl
  | succ n ih =>
    intro k h hj
    unfold tf_ent
    rw [hj k (Nat.le_refl k) (by omega), ih _ _ (fun j h1 h2 => hj j (by omega) (by omega)), ih _ _ (fun j h1 h2 => hj j (by omega) (by omega))]
theorem put_eq {σ : St} {q t K : Nat} {v : Int32} (hK : K ≤ 32) (hs : σ 3 q 0 = nI K) : mf_putA σ q t K v = tf_putA σ q t K ∧ mf_putS σ q t K v = tf_putS σ q t K v := by
  unfold mf_putA tf_putA mf_putS tf_putS
  by_cases g : σ 6 q t ≤ tf_ent σ q (nI t) K 0 0
  · rw [if_pos g, if_pos g, if_pos g, if_pos g]; exact ⟨rfl, rfl⟩
  · rw [if_neg g, if_neg g, if_neg g, if_neg g, hs]
    by_cases q32 : K = 32
    · subst q32
      rw [if_pos (show nI 32 = 32 from rfl), if_neg (show ¬ nI 32 < 32 by decide), if_pos (show nI 32 = 32 from rfl), if_neg (show ¬ nI 32 < 32 by decide)]; exact ⟨rfl, rfl⟩
    · have n1 : ¬ nI K = 32 := fun z => q32 ((nI_eq (b := 32) (by omega) (by omega)).mp z)
      have n2 : nI K < 32 := (nI_ltI (b := 32) (by omega) (by omega)).mpr (by omega)
      rw [if_neg n1, if_pos n2, if_neg n1, if_pos n2]
      refine ⟨?_, rfl⟩
      rw [ent_last, Nat.zero_add, if_pos (show tf_app σ q K (nI t) v 4 q K = nI t by unfold tf_app; rw [su_n1 (by decide), su_n1 (by decide), su_eq])]
      rw [ent_cg (tf_app σ q K (nI t) v) σ q (nI t) K 0 0 (fun j h1 h2 => by unfold tf_app; rw [su_n1 (by decide), su_n1 (by decide), su_n3 (by omega)])]
theorem fst_tk (σ : St) (q : Nat) (x : Int32) : ∀ (n k : Nat), tf_fst σ q x n k = if mf_tk σ q x n k < k + n then nI (mf_tk σ q x n k) else -1 := by
  intro n
  induction n with
  | zero => intro k; show (-1 : Int32) = if k < k + 0 then _ else _; rw [if_neg (by omega)]
  | succ n ih =>
    intro k
    unfold tf_fst mf_tk
    by_cases h1 : x = -1
    · rw [if_pos h1, if_pos h1, if_pos (by omega)]
    · rw [if_neg h1, if_neg h1]
      by_cases h2 : σ 4 q k = x
      · rw [if_pos h2, if_pos h2, if_pos (by omega)]
      · rw [if_neg h2, if_neg h2, ih, show k + 1 + n = k + (n + 1) by omega]
theorem tk_some {σ : St} {q K j : Nat} {x : Int32} (hK : K ≤ 32) (hj : j < K) (h : tf_fst σ q x K 0 = nI j) : mf_tk σ q x K 0 = j := by
  rw [fst_tk] at h
  by_cases g : mf_tk σ q x K 0 < 0 + K
  · rw [if_pos g] at h; exact (nI_eq (by omega) (by omega)).mp h
  · rw [if_neg g] at h; exact absurd h.symm (nI_m1 (by omega))
theorem tk_none {σ : St} {q K : Nat} {x : Int32} (hK : K ≤ 32) (hs : σ 3 q 0 = nI K) (h : tf_fst σ q x K 0 < 0 ∨ ¬ tf_fst σ q x K 0 < σ 3 q 0) : mf_tk σ q x K 0 = K := by
  have hle := mf_tk_le σ q x K 0
  rcases Nat.lt_or_ge (mf_tk σ q x K 0) K with g | g
  · rw [fst_tk, if_pos (by omega), hs] at h
    rcases h with h | h
    · exact absurd h (nI_pos (by omega))
    · exact absurd (nI_lt g (by omega)) h
  · omega
theorem cl_comm (q : Nat) (v : Int32) : ∀ (n k : Nat) (σ : St), tf_cl q n k (su σ 3 q 0 v) = su (tf_cl q n k σ) 3 q 0 v := by
  intro n
  induction n with
  | zero => intro k σ; rfl
  | succ n ih =>
    intro k σ
    show tf_cl q n (k + 1) _ = su (tf_cl q n (k + 1) _) 3 q 0 v
    rw [← ih]
    congr 1
    funext a b c
    by_cases h3 : a = 3
    · subst h3
      rw [su_n1 (by decide), su_n1 (by decide)]
      exact su_cg (fun _ => by rw [su_n1 (by decide), su_n1 (by decide)]) rfl
    · rw [su_n1 (show a ≠ 3 from h3)]
      refine su_cg (fun _ => su_cg (fun _ => su_n1 h3) (su_n1 (by decide))) ?_
      rw [su_n1 (by decide), su_n1 (by decide), su_n1 (by decide)]
theorem cl_3 (q : Nat) : ∀ (n k : Nat) (σ : St) (a b c : Nat), a ≠ 4 → a ≠ 5 → tf_cl q n k σ a b c = σ a b c := by
  intro n
  induction n with
  | zero => intro k σ a b c _ _; rfl
  | succ n ih =>
    intro k σ a b c h4 h5
    show tf_cl q n (k + 1) _ a b c = _
    rw [ih _ _ _ _ _ h4 h5, su_n1 h5, su_n1 h4]
/-- the invariant behind each call -/
theorem Iv_su {N m : Nat} {σ : St} {x y z : Nat} {v : Int32} (h : Iv N m σ) (h1 : ¬ (x = 0 ∧ y = 0 ∧ (z = 0 ∨ z = 1 ∨ z = 4 ∨ z = 5 ∨ z = 8))) (h2 : ¬ (x = 1 ∧ (z = 0 ∨ z = 1 ∨ z = 6))) (h3 : x ≠ 3) : Iv N m (su σ x y z v) := by
  obtain ⟨h4, h5, hbo, hsz, hB, hr, hra, ⟨G, hG, hg, hw⟩⟩ := h
  refine ⟨by rw [su_ne (by omega)]; exact h4, by rw [su_ne (by omega)]; exact h5, fun t ht => by rw [su_ne (by omega)]; exact hbo t ht, fun q hq => by rw [su_ne (by omega)]; exact hsz q hq, by rw [su_ne (by omega)]; exact hB, by rw [su_ne (by omega)]; exact hr, fun t ht => by rw [su_ne (by omega)]; exact hra t ht, ⟨G, hG, by rw [su_ne (by omega)]; exact hg, fun t ht => by rw [su_ne (by omega)]; exact hw t ht⟩⟩
theorem arg_n {x : Int32} {k : Nat} (hk : k < 2 ^ 31) (h : ¬ x < 0 ∧ x ≤ nI k) : ∃ r, r ≤ k ∧ x = nI r := nI_of2 (nI_toInt hk) h.1 h.2
theorem Iv_rule {N m : Nat} {σ : St} {x : Int32} (h : Iv N m σ) (hx : ¬ x < 0 ∧ x ≤ 3) : Iv N m (su σ 0 0 0 x) := by
  obtain ⟨h4, h5, hbo, hsz, hB, hr, hra, ⟨G, hG, hg, hw⟩⟩ := h
  refine ⟨by rw [su_ne (by omega)]; exact h4, by rw [su_ne (by omega)]; exact h5, fun t ht => by rw [su_ne (by omega)]; exact hbo t ht, fun q hq => by rw [su_ne (by omega)]; exact hsz q hq, by rw [su_ne (by omega)]; exact hB, by rw [su_eq]; exact arg_n (by decide) hx, fun t ht => by rw [su_ne (by omega)]; exact hra t ht, ⟨G, hG, by rw [su_ne (by omega)]; exact hg, fun t ht => by rw [su_ne (by omega)]; exact hw t ht⟩⟩
theorem Iv_bound {N m : Nat} {σ : St} {x : Int32} (h : Iv N m σ) (hx : ¬ x < 0 ∧ x ≤ 1000) : Iv N m (su σ 0 0 1 x) := by
  obtain ⟨h4, h5, hbo, hsz, hB, hr, hra, ⟨G, hG, hg, hw⟩⟩ := h
  refine ⟨by rw [su_ne (by omega)]; exact h4, by rw [su_ne (by omega)]; exact h5, fun t ht => by rw [su_ne (by omega)]; exact hbo t ht, fun q hq => by rw [su_ne (by omega)]; exact hsz q hq, by rw [su_eq]; exact arg_n (by decide) hx, by rw [su_ne (by omega)]; exact hr, fun t ht => by rw [su_ne (by omega)]; exact hra t ht, ⟨G, hG, by rw [su_ne (by omega)]; exact hg, fun t ht => by rw [su_ne (by omega)]; exact hw t ht⟩⟩
theorem Iv_ready {N m t0 : Nat} {σ : St} {x : Int32} (h : Iv N m σ) (hx : x = 0 ∨ x = 1) : Iv N m (su σ 1 t0 0 x) := by
  obtain ⟨h4, h5, hbo, hsz, hB, hr, hra, ⟨G, hG, hg, hw⟩⟩ := h
  refine ⟨by rw [su_ne (by omega)]; exact h4, by rw [su_ne (by omega)]; exact h5, fun t ht => ?_, fun q hq => by rw [su_ne (by omega)]; exact hsz q hq, by rw [su_ne (by omega)]; exact hB, by rw [su_ne (by omega)]; exact hr, fun t ht => by rw [su_ne (by omega)]; exact hra t ht, ⟨G, hG, by rw [su_ne (by omega)]; exact hg, fun t ht => by rw [su_ne (by omega)]; exact hw t ht⟩⟩
  by_cases q : t = t0
  · subst q; rw [su_eq]; exact hx
  · rw [su_n2 q]; exact hbo t ht
theorem Iv_rank {N m t0 : Nat} {σ : St} {x : Int32} (h : Iv N m σ) (hx : ¬ x < 0 ∧ x ≤ 15) : Iv N m (su σ 1 t0 1 x) := by
  obtain ⟨h4, h5, hbo, hsz, hB, hr, hra, ⟨G, hG, hg, hw⟩⟩ := h
  refine ⟨by rw [su_ne (by omega)]; exact h4, by rw [su_ne (by omega)]; exact h5, fun t ht => by rw [su_ne (by omega)]; exact hbo t ht, fun q hq => by rw [su_ne (by omega)]; exact hsz q hq, by rw [su_ne (by omega)]; exact hB, by rw [su_ne (by omega)]; exact hr, fun t ht => ?_, ⟨G, hG, by rw [su_ne (by omega)]; exact hg, fun t ht => by rw [su_ne (by omega)]; exact hw t ht⟩⟩
  by_cases q : t = t0
  · subst q; rw [su_eq]; exact arg_n (by decide) hx
  · rw [su_n2 q]; exact hra t ht
theorem Iv_size {N m q0 K : Nat} {σ : St} (h : Iv N m σ) (hK : K ≤ 32) : Iv N m (su σ 3 q0 0 (nI K)) := by
  obtain ⟨h4, h5, hbo, hsz, hB, hr, hra, ⟨G, hG, hg, hw⟩⟩ := h
  refine ⟨by rw [su_ne (by omega)]; exact h4, by rw [su_ne (by omega)]; exact h5, fun t ht => by rw [su_ne (by omega)]; exact hbo t ht, fun q hq => ?_, by rw [su_ne (by omega)]; exact hB, by rw [su_ne (by omega)]; exact hr, fun t ht => by rw [su_ne (by omega)]; exact hra t ht, ⟨G, hG, by rw [su_ne (by omega)]; exact hg, fun t ht => by rw [su_ne (by omega)]; exact hw t ht⟩⟩
  by_cases q9 : q = q0
  · subst q9; rw [su_eq]; exact ⟨K, hK, rfl⟩
  · rw [su_n2 q9]; exact hsz q hq
theorem Iv_cl {N m q0 : Nat} : ∀ (n k : Nat) (σ : St), Iv N m σ → Iv N m (tf_cl q0 n k σ) := by
  intro n
  induction n with
  | zero => intro k σ h; exact h
  | succ n ih => intro k σ h; exact ih _ _ (Iv_su (Iv_su h (by omega) (by omega) (by omega)) (by omega) (by omega) (by omega))
theorem Iv_put {N m q t K : Nat} {σ : St} {v : Int32} (h : Iv N m σ) (hK : K ≤ 32) (hs : σ 3 q 0 = nI K) : Iv N m (tf_putS σ q t K v) := by
  unfold tf_putS tf_app
  split
  · exact h
  · split
    · rename_i h9
      rw [hs] at h9
      have := (nI_ltI (a := K) (b := 32) (by omega) (by omega)).mp h9
      exact Iv_size (Iv_su (Iv_su h (by omega) (by omega) (by omega)) (by omega) (by omega) (by omega)) (by omega)
    · exact h
theorem Iv_mono {N m m' : Nat} {σ : St} (h : Iv N m σ) (hm : m ≤ m') : Iv N m' σ := by
  obtain ⟨h4, h5, hbo, hsz, hB, hr, hra, ⟨G, hG, hg, hw⟩⟩ := h
  exact ⟨h4, h5, hbo, hsz, hB, hr, hra, ⟨G, by omega, hg, hw⟩⟩
theorem core_lt {N m : Nat} {σ : St} (hN : N ≤ 16) (h0 : 0 < N) (h : Iv N m σ) : tf_core σ < N := by
  unfold tf_core
  by_cases q : σ 0 0 4 = -1
  · rw [if_pos q]; exact h0
  · rw [if_neg q]; exact (ix_cl hN h.1 q).1
