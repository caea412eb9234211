def mf_can (σ : St) (t : Nat) : Int32 := if σ 1 t 0 = 0 then 0 else if σ 1 t 2 = 0 then 1 else 0
def mf_ov (σ : St) : Nat → Nat → Int32 → Int32
  | 0, _, b => b
  | n + 1, t, b => if mf_can σ t = 0 then mf_ov σ n (t + 1) b else if b < 0 then mf_ov σ n (t + 1) (nI t) else if σ 1 t 4 ≤ σ 1 b.toNatClampNeg 4 then mf_ov σ n (t + 1) b else mf_ov σ n (t + 1) (nI t)
def mf_over (N : Nat) (σ : St) : Int32 := if σ 0 0 1 ≤ 0 then -1 else if mf_ov σ N 0 (-1) < 0 then -1 else if σ 1 (mf_ov σ N 0 (-1)).toNatClampNeg 4 < σ 0 0 1 then -1 else mf_ov σ N 0 (-1)
def mf_top (σ : St) : Nat → Nat → Int32 → Int32
  | 0, _, top => top
  | n + 1, t, top => if mf_can σ t = 0 then mf_top σ n (t + 1) top else if σ 1 t 1 ≤ top then mf_top σ n (t + 1) top else mf_top σ n (t + 1) (σ 1 t 1)
def mf_L (σ : St) : Nat := if σ 0 0 4 = -1 then 0 else (σ 0 0 4).toNatClampNeg + 1
def mf_turn (σ : St) (N : Nat) (top : Int32) : Nat → Nat → Int32
  | 0, _ => -1
  | n + 1, j => if mf_can σ ((mf_L σ + j) % N) = 0 then mf_turn σ N top n (j + 1) else if σ 1 ((mf_L σ + j) % N) 1 = top then nI ((mf_L σ + j) % N) else mf_turn σ N top n (j + 1)
def mf_v (σ : St) (y : Int32) (t : Nat) : Int32 := if y = 0 then σ 1 t 6 else σ 1 t 3
def mf_b (σ : St) (y b v : Int32) : Int32 := if 0 ≤ b then mf_v σ y b.toNatClampNeg else v
def mf_few (σ : St) (top y : Int32) : Nat → Int32 → Int32
  | 0, b => b
  | n + 1, b => if mf_can σ n = 0 then mf_few σ top y n b else if σ 1 n 1 = top then (if mf_b σ y b (mf_v σ y n) < mf_v σ y n then mf_few σ top y n b else mf_few σ top y n (nI n)) else mf_few σ top y n b
def mf_cnt (σ : St) (top : Int32) : Nat → Nat → Int32 → Int32
  | 0, _, k => k
  | n + 1, t, k => if mf_can σ t = 0 then mf_cnt σ top n (t + 1) (k + 0) else if σ 1 t 1 = top then mf_cnt σ top n (t + 1) (k + 1) else mf_cnt σ top n (t + 1) (k + 0)
def mf_pick (σ : St) (top : Int32) : Nat → Nat → Int32 → Int32
  | 0, _, _ => -1
  | n + 1, t, k => if mf_can σ t = 0 then mf_pick σ top n (t + 1) k else if σ 1 t 1 = top then (if k = 0 then nI t else mf_pick σ top n (t + 1) (k + (-1))) else mf_pick σ top n (t + 1) k
def mf_drA (N : Nat) (top : Int32) (σ : St) : Int32 := mf_pick (su σ 0 0 3 (tf_x σ)) top N 0 (tf_x σ / 65536 - tf_x σ / 65536 / mf_cnt σ top N 0 0 * mf_cnt σ top N 0 0)
def mf_y (σ : St) : Int32 := if σ 0 0 0 = 2 then 1 else 0
def mf_chA (N : Nat) (σ : St) : Int32 :=
  if 0 ≤ mf_top σ N 0 (-1) then (if mf_over N σ < 0 then (if σ 0 0 0 = 0 then mf_turn σ N (mf_top σ N 0 (-1)) N 0 else if σ 0 0 0 = 3 then mf_drA N (mf_top σ N 0 (-1)) σ else mf_few σ (mf_top σ N 0 (-1)) (mf_y σ) N (-1)) else mf_over N σ) else -1
def mf_chS (N : Nat) (σ : St) : St :=
  if 0 ≤ mf_top σ N 0 (-1) then (if mf_over N σ < 0 then (if σ 0 0 0 = 0 then σ else if σ 0 0 0 = 3 then su σ 0 0 3 (tf_x σ) else σ) else σ) else σ
def mf_beg (σ : St) (a : Int32) : St :=
  su (su (su (su σ 0 0 5 a) 0 0 6 (su σ 0 0 5 a 0 0 2 - 1)) 1 a.toNatClampNeg 7 (su (su σ 0 0 5 a) 0 0 6 (su σ 0 0 5 a 0 0 2 - 1) 1 a.toNatClampNeg 7 + 1)) 0 0 10 (su (su (su σ 0 0 5 a) 0 0 6 (su σ 0 0 5 a 0 0 2 - 1)) 1 a.toNatClampNeg 7 (su (su σ 0 0 5 a) 0 0 6 (su σ 0 0 5 a 0 0 2 - 1) 1 a.toNatClampNeg 7 + 1) 0 0 10 + 1)
def mf_tA (N : Nat) (σ : St) : Int32 :=
  if 0 ≤ mf_chA N σ then (if mf_chA N σ = su (mf_chS N σ) 0 0 5 (-1) 0 0 4 then mf_chA N σ else if su (mf_chS N σ) 0 0 5 (-1) 0 0 4 < 0 then mf_chA N σ else if su (mf_chS N σ) 0 0 5 (-1) 0 0 2 = 0 then mf_chA N σ else -1) else -1
def mf_tS (N : Nat) (σ : St) : St :=
  if 0 ≤ mf_chA N σ then (if mf_chA N σ = su (mf_chS N σ) 0 0 5 (-1) 0 0 4 then su (mf_chS N σ) 0 0 5 (-1) else if su (mf_chS N σ) 0 0 5 (-1) 0 0 4 < 0 then su (mf_chS N σ) 0 0 5 (-1) else if su (mf_chS N σ) 0 0 5 (-1) 0 0 2 = 0 then su (mf_chS N σ) 0 0 5 (-1) else mf_beg (su (mf_chS N σ) 0 0 5 (-1)) (mf_chA N σ)) else su (mf_chS N σ) 0 0 9 (mf_chS N σ 0 0 9 + 1)
def mf_goA (N : Nat) (σ : St) : Int32 := if σ 0 0 6 ≤ 0 then (if σ 0 0 5 < 0 then mf_tA N σ else if mf_can σ (σ 0 0 5).toNatClampNeg = 0 then mf_tA N σ else σ 0 0 5) else -1
def mf_goS (N : Nat) (σ : St) : St := if σ 0 0 6 ≤ 0 then (if σ 0 0 5 < 0 then mf_tS N σ else if mf_can σ (σ 0 0 5).toNatClampNeg = 0 then mf_tS N σ else su σ 0 0 5 (-1)) else su (su σ 0 0 6 (σ 0 0 6 - 1)) 0 0 10 (su σ 0 0 6 (σ 0 0 6 - 1) 0 0 10 + 1)
def mf_un1 (σ : St) (t : Nat) : St := if σ 0 0 7 < σ 1 t 2 then su σ 1 t 2 (σ 1 t 2) else su σ 1 t 2 0
def mf_un : Nat → Nat → St → St
  | 0, _, σ => σ
  | n + 1, t, σ => mf_un n (t + 1) (mf_un1 σ t)
def mf_w1 (g : Int32) (σ : St) (t : Nat) : St :=
  if nI t = g then su (su σ 1 t 4 0) 1 t 6 (su σ 1 t 4 0 1 t 6 + 1) else if mf_can σ t = 0 then σ else
    su (su σ 1 t 4 (σ 1 t 4 + 1)) 1 t 5 (if su σ 1 t 4 (σ 1 t 4 + 1) 1 t 4 ≤ su σ 1 t 4 (σ 1 t 4 + 1) 1 t 5 then su σ 1 t 4 (σ 1 t 4 + 1) 1 t 5 else su σ 1 t 4 (σ 1 t 4 + 1) 1 t 4)
def mf_w (g : Int32) : Nat → Nat → St → St
  | 0, _, σ => σ
  | n + 1, t, σ => mf_w g n (t + 1) (mf_w1 g σ t)
def mf_p1 (N : Nat) (σ : St) : St := mf_un N 0 (su σ 0 0 7 (σ 0 0 7 + 1))
def mf_stA (N : Nat) (σ : St) : Int32 := mf_goA N (mf_p1 N σ)
def mf_p3 (N : Nat) (σ : St) : St := mf_w (mf_stA N σ) N 0 (mf_goS N (mf_p1 N σ))
def mf_stS (N : Nat) (σ : St) : St :=
  if mf_stA N σ < 0 then su (su (mf_p3 N σ) 0 0 4 (mf_p3 N σ 0 0 4)) 0 0 8 (su (mf_p3 N σ) 0 0 4 (mf_p3 N σ 0 0 4) 0 0 8 + 0) else su (su (mf_p3 N σ) 0 0 4 (mf_stA N σ)) 0 0 8 (su (mf_p3 N σ) 0 0 4 (mf_stA N σ) 0 0 8 + 1)
def mf_it (N : Nat) (σ : St) : Nat → St
  | 0 => σ
  | k + 1 => mf_stS N (mf_it N σ k)
theorem i32_nlt {x y : Int32} (h : x ≤ y) : ¬ y < x := by
  rw [Int32.lt_iff_toInt_lt]; rw [Int32.le_iff_toInt_le] at h; omega
theorem i32_lt {x y : Int32} (h : ¬ x ≤ y) : y < x := by
  rw [Int32.lt_iff_toInt_lt]; rw [Int32.le_iff_toInt_le] at h; omega
theorem i32_le {x y : Int32} (h : ¬ y < x) : x ≤ y := by
  rw [Int32.le_iff_toInt_le]; rw [Int32.lt_iff_toInt_lt] at h; omega
theorem le_pred {t N : Nat} (h : t < N) (hN : N < 2 ^ 31) : nI t ≤ nI N - 1 := by
  rw [show N = N - 1 + 1 by omega, nI_pred]
  exact nI_le (by omega) (by omega)
theorem bad_pred {i : Int32} {N : Nat} (h0 : 0 < N) (hN : N < 2 ^ 31) (h : i < 0 ∨ ¬ i < nI N) : i < 0 ∨ ¬ i ≤ nI N - 1 := by
  rcases h with h | h
  · exact Or.inl h
  · refine Or.inr (fun q => h ?_)
    rw [show N = N - 1 + 1 by omega, nI_pred] at q
    rw [Int32.le_iff_toInt_le, nI_toInt (by omega)] at q
    rw [Int32.lt_iff_toInt_lt, nI_toInt hN]
    omega
theorem ix_nn {N : Nat} {x : Int32} (hN : N ≤ 16) (h : ix N x) (hx : ¬ x < 0) : x.toNatClampNeg < N ∧ x = nI x.toNatClampNeg := ix_cl hN h (fun q => hx (by rw [q]; decide))
theorem mf_ov_ix (N : Nat) (σ : St) : ∀ (n t : Nat) (b : Int32), t + n = N → ix N b → ix N (mf_ov σ n t b) := by
  intro n
  induction n with
  | zero => intro t b _ h; exact h
  | succ n ih =>
    intro t b hn h
    unfold mf_ov
    split
    · exact ih _ _ (by omega) h
    · split
      · exact ih _ _ (by omega) (ix_t (by omega))
      · split
        · exact ih _ _ (by omega) h
        · exact ih _ _ (by omega) (ix_t (by omega))
theorem mf_over_ix (N : Nat) (σ : St) : ix N (mf_over N σ) := by
  have h := mf_ov_ix N σ N 0 (-1) (by omega) ix_m
  unfold mf_over
  split
  · exact ix_m
  · split
    · exact ix_m
    · split
      · exact ix_m
      · exact h
theorem mf_turn_ix (N : Nat) (σ : St) (top : Int32) (h0 : 0 < N) : ∀ (n j : Nat), ix N (mf_turn σ N top n j) := by
  intro n
  induction n with
  | zero => intro j; exact ix_m
  | succ n ih =>
    intro j
    unfold mf_turn
    split
    · exact ih _
    · split
      · exact ix_t (Nat.mod_lt _ h0)
      · exact ih _
theorem mf_few_ix (N : Nat) (σ : St) (top y : Int32) : ∀ (n : Nat) (b : Int32), n ≤ N → ix N b → ix N (mf_few σ top y n b) := by
  intro n
  induction n with
  | zero => intro b _ h; exact h
  | succ n ih =>
    intro b hn h
    unfold mf_few
    split
    · exact ih _ (by omega) h
    · split
      · split
        · exact ih _ (by omega) h
        · exact ih _ (by omega) (ix_t (by omega))
      · exact ih _ (by omega) h
theorem mf_pick_ix (N : Nat) (σ : St) (top : Int32) : ∀ (n t : Nat) (k : Int32), t + n = N → ix N (mf_pick σ top n t k) := by
  intro n
  induction n with
  | zero => intro t k _; exact ix_m
  | succ n ih =>
    intro t k hn
    unfold mf_pick
    split
    · exact ih _ _ (by omega)
    · split
      · split
        · exact ix_t (by omega)
        · exact ih _ _ (by omega)
      · exact ih _ _ (by omega)
theorem mf_chA_ix (N : Nat) (σ : St) (h0 : 0 < N) : ix N (mf_chA N σ) := by
  unfold mf_chA
  split
  · split
    · split
      · exact mf_turn_ix N σ _ h0 _ _
      · split
        · exact mf_pick_ix N _ _ N 0 _ (by omega)
        · exact mf_few_ix N σ _ _ N _ (Nat.le_refl N) ix_m
    · exact mf_over_ix N σ
  · exact ix_m
def dn (n : Nat) : Int32 := nI n + (-1)
theorem dn_s (n : Nat) : dn (n + 1) = nI n := pk_m1 n
theorem dn_0 : dn 0 < 0 := by decide
theorem dn_N (N : Nat) : nI N - 1 = dn N := by
  unfold dn
  rw [Int32.sub_eq_add_neg]
theorem turn_ix {N j : Nat} {σ : St} (hN : N ≤ 16) (h0 : 0 < N) (hj : j < N) (h : ix N (σ 0 0 4)) : σ 0 0 4 + nI (j + 1) - (σ 0 0 4 + nI (j + 1)) / nI N * nI N = nI ((mf_L σ + j) % N) := by
  have e : σ 0 0 4 + nI (j + 1) = nI (mf_L σ + j) := by
    unfold mf_L
    by_cases h4 : σ 0 0 4 = -1
    · rw [if_pos h4, h4, Nat.zero_add, Int32.add_comm, pk_m1]
    · rw [if_neg h4]
      obtain ⟨h5, h6⟩ := ix_cl hN h h4
      rw [show (σ 0 0 4).toNatClampNeg + 1 + j = (σ 0 0 4).toNatClampNeg + (j + 1) by omega, ← nI_add (σ 0 0 4).toNatClampNeg (j + 1), ← h6]
  have hL : mf_L σ ≤ 16 := by
    unfold mf_L
    by_cases h4 : σ 0 0 4 = -1
    · rw [if_pos h4]; omega
    · rw [if_neg h4]
      obtain ⟨h5, h6⟩ := ix_cl hN h h4
      omega
  rw [e, pk_rem (by omega) h0 (by omega)]
theorem i16 (q t : Nat) : (16 : Int32) * nI q + nI t = nI (16 * q + t) := by
  rw [show (16 : Int32) = nI 16 from rfl, pk_mul, nI_add]
theorem i32x (q t : Nat) : (32 : Int32) * nI q + nI t = nI (32 * q + t) := by
  rw [show (32 : Int32) = nI 32 from rfl, pk_mul, nI_add]
theorem i32y (q t : Nat) : (32 : Int32) * nI q + nI t + 1 = nI (32 * q + (t + 1)) := by
  rw [i32x, nI_1]; rfl
def mf_putA (σ : St) (q t K : Nat) (v : Int32) : Int32 := if σ 6 q t ≤ tf_ent σ q (nI t) K 0 0 then -1 else if σ 3 q 0 = 32 then -1 else tf_ent (tf_app σ q K (nI t) v) q (nI t) (K + 1) 0 0
def mf_putS (σ : St) (q t K : Nat) (v : Int32) : St := if σ 6 q t ≤ tf_ent σ q (nI t) K 0 0 then σ else if σ 3 q 0 = 32 then σ else tf_app σ q K (nI t) v
def mf_tk (σ : St) (q : Nat) (x : Int32) : Nat → Nat → Nat
  | 0, k => k
  | n + 1, k => if x = -1 then k else if σ 4 q k = x then k else mf_tk σ q x n (k + 1)
theorem mf_tk_le (σ : St) (q : Nat) (x : Int32) : ∀ n k, mf_tk σ q x n k ≤ k + n := by
  intro n
  induction n with
  | zero => intro k; exact Nat.le_refl _
  | succ n ih =>
    intro k
    unfold mf_tk
    split
    · omega
    · split
      · omega
      · have := ih (k + 1); omega
def mf_fin : Nat → Int32 → Int32 → Prop
  | 0, _, b => b = 0
  | n + 1, a, b => b = 0 ∨ mf_fin n b (a - a / b * b)
def mf_shA (σ : St) (t : Nat) (x : Int32) : Int32 := if σ 0 0 8 = 0 then x else if x = 0 then σ 1 t 6 / tf_gcd 64 (σ 1 t 6) (σ 0 0 8) else σ 0 0 8 / tf_gcd 64 (σ 1 t 6) (σ 0 0 8)
theorem bad7 {x : Int32} (h : x.toInt < 0 ∨ 7 < x.toInt) : x < 0 ∨ ¬ x ≤ 7 := by
  rcases h with h | h
  · exact Or.inl (by rw [Int32.lt_iff_toInt_lt, Int32.toInt_zero]; exact h)
  · refine Or.inr ?_
    rw [Int32.le_iff_toInt_le, show (7 : Int32).toInt = 7 from rfl]
    omega
theorem bad5 {x : Int32} (h : x < 0 ∨ ¬ x < nI 2) : x < 0 ∨ ¬ x ≤ 1 := bad_pred (N := 2) (by decide) (by decide) h
theorem bad15 {x : Int32} (h : x < 0 ∨ ¬ x < nI 16) : x < 0 ∨ ¬ x ≤ 15 := bad_pred (N := 16) (by decide) (by decide) h
theorem core_nn {N : Nat} {σ : St} (hN : N ≤ 16) (h : ix N (σ 0 0 4)) (h4 : 0 ≤ σ 0 0 4) : σ 0 0 4 = nI (tf_core σ) := by
  have hne : ¬ σ 0 0 4 = -1 := fun q => by rw [q] at h4; exact absurd h4 (by decide)
  rw [tf_core, if_neg hne]
  exact (ix_cl hN h hne).2
theorem core_m {N : Nat} {σ : St} (hN : N ≤ 16) (h : ix N (σ 0 0 4)) (h4 : ¬ 0 ≤ σ 0 0 4) : tf_core σ = 0 := by
  rcases h with h | ⟨t, ht, h⟩
  · rw [tf_core, if_pos h]
  · exact absurd (by rw [h]; exact nI_pos' (by omega)) h4
theorem bad_predK {i : Int32} {K : Nat} (hK : K < 2 ^ 31) (h : i < 0 ∨ ¬ i < nI K) : i < 0 ∨ ¬ i ≤ nI K - 1 := by
  rcases Nat.eq_zero_or_pos K with h0 | h0
  · subst h0
    by_cases hi : i < 0
    · exact Or.inl hi
    · refine Or.inr (fun q => hi ?_)
      rw [show nI 0 - 1 = (-1 : Int32) from rfl, Int32.le_iff_toInt_le, show (-1 : Int32).toInt = -1 from rfl] at q
      rw [Int32.lt_iff_toInt_lt, Int32.toInt_zero]
      omega
  · exact bad_pred h0 hK h
