/-! The class's state as one function of three numbers; what each method does to it, in the order of its bytecode. -/
abbrev St : Type := Nat → Nat → Nat → Int32
def su (σ : St) (a b c : Nat) (v : Int32) : St := fun x y z => if x = a ∧ y = b ∧ z = c then v else σ x y z
theorem su_eq (σ : St) (a b c : Nat) (v : Int32) : su σ a b c v a b c = v := if_pos ⟨rfl, rfl, rfl⟩
theorem su_ne {σ : St} {a b c x y z : Nat} {v : Int32} (h : ¬ (x = a ∧ y = b ∧ z = c)) : su σ a b c v x y z = σ x y z := if_neg h
theorem su_n1 {σ : St} {a b c x y z : Nat} {v : Int32} (h : x ≠ a) : su σ a b c v x y z = σ x y z := if_neg (fun q => h q.1)
theorem su_n2 {σ : St} {a b c x y z : Nat} {v : Int32} (h : y ≠ b) : su σ a b c v x y z = σ x y z := if_neg (fun q => h q.2.1)
theorem su_n3 {σ : St} {a b c x y z : Nat} {v : Int32} (h : z ≠ c) : su σ a b c v x y z = σ x y z := if_neg (fun q => h q.2.2)
theorem su_r {σ : St} {a b c x y : Nat} {v : Int32} (h : x ≠ a) : su σ a b c v x y = σ x y := funext fun _ => su_n1 h
-- σ 0 0 k: 0 rule, 1 bound, 2 cost, 3 x, 4 lastGone, 5 changingTo, 6 changeCyclesLeft, 7 cycles, 8 gone, 9 idle, 10 busy
-- σ 1 t f: 0 isReady, 1 rank, 2 sleepsUntil, 3 misses, 4 waiting, 5 longest, 6 gone, 7 changesBegun, 8 canGo
-- σ 2 t k bank; σ 3 q 0 size; σ 4 q k owners; σ 5 q k numbers; σ 6 q t parts
def tf_see1 (σ : St) (t : Nat) : St :=
  if σ 0 0 7 < σ 1 t 2 then
    (if σ 1 t 0 = 0 then su σ 1 t 8 0 else if σ 1 t 2 = 0 then su σ 1 t 8 1 else su σ 1 t 8 0)
  else
    (if su σ 1 t 2 0 1 t 0 = 0 then su (su σ 1 t 2 0) 1 t 8 0 else if su σ 1 t 2 0 1 t 2 = 0 then su (su σ 1 t 2 0) 1 t 8 1 else su (su σ 1 t 2 0) 1 t 8 0)
def tf_see : Nat → Nat → St → St
  | 0, _, σ => σ
  | n + 1, t, σ => tf_see n (t + 1) (tf_see1 σ t)
def tf_over (σ : St) : Nat → Nat → Int32 → Int32 → Int32
  | 0, _, best, _ => best
  | n + 1, t, best, most => if σ 1 t 8 = 0 then tf_over σ n (t + 1) best most else if σ 1 t 4 ≤ most then tf_over σ n (t + 1) best most else tf_over σ n (t + 1) (nI t) (σ 1 t 4)
def tf_overdue (N : Nat) (σ : St) : Int32 := if σ 0 0 1 = 0 then -1 else tf_over σ N 0 (-1) (σ 0 0 1 - 1)
def tf_top (σ : St) : Nat → Nat → Int32 → Int32
  | 0, _, top => top
  | n + 1, t, top => if σ 1 t 8 = 0 then tf_top σ n (t + 1) top else if σ 1 t 1 ≤ top then tf_top σ n (t + 1) top else tf_top σ n (t + 1) (σ 1 t 1)
def tf_cand (σ : St) (t : Nat) (top : Int32) : Int32 := if σ 1 t 8 = 0 then 0 else if σ 1 t 1 = top then 1 else 0
def tf_next (σ : St) (top : Int32) : Nat → Nat → Int32 → Int32
  | 0, _, low => low
  | n + 1, t, low => if tf_cand σ t top = 0 then tf_next σ top n (t + 1) low else if nI t ≤ σ 0 0 4 then (if low = -1 then tf_next σ top n (t + 1) (nI t) else tf_next σ top n (t + 1) low) else nI t
def tf_has (σ : St) (t : Nat) : Int32 := if σ 0 0 0 = 1 then σ 1 t 6 else σ 1 t 3
def tf_few (σ : St) (top : Int32) : Nat → Nat → Int32 → Int32 → Int32
  | 0, _, best, _ => best
  | n + 1, t, best, few => if tf_cand σ t top = 0 then tf_few σ top n (t + 1) best few else if best = -1 then tf_few σ top n (t + 1) (nI t) (tf_has σ t) else if few ≤ tf_has σ t then tf_few σ top n (t + 1) best few else tf_few σ top n (t + 1) (nI t) (tf_has σ t)
def tf_cnt (σ : St) (top : Int32) : Nat → Nat → Int32 → Int32
  | 0, _, k => k
  | n + 1, t, k => if tf_cand σ t top = 0 then tf_cnt σ top n (t + 1) k else tf_cnt σ top n (t + 1) (k + 1)
def tf_pick (σ : St) (top : Int32) : Nat → Nat → Int32 → Int32
  | 0, _, _ => -1
  | n + 1, t, k => if tf_cand σ t top = 0 then tf_pick σ top n (t + 1) k else if k = 0 then nI t else tf_pick σ top n (t + 1) (k + (-1))
def tf_x (σ : St) : Int32 := (1103515245 * σ 0 0 3 + 12345) &&& 2147483647
def tf_seedA (N : Nat) (top : Int32) (σ : St) : Int32 :=
  if tf_cnt σ top N 0 0 = 0 then -1 else tf_pick (su σ 0 0 3 (tf_x σ)) top N 0 (tf_x σ / 65536 - tf_x σ / 65536 / tf_cnt σ top N 0 0 * tf_cnt σ top N 0 0)
def tf_seedS (N : Nat) (top : Int32) (σ : St) : St := if tf_cnt σ top N 0 0 = 0 then σ else su σ 0 0 3 (tf_x σ)
def tf_chA (N : Nat) (σ : St) : Int32 :=
  if tf_overdue N σ = -1 then (if tf_top σ N 0 (-1) = -1 then -1 else if σ 0 0 0 = 1 ∨ σ 0 0 0 = 2 then tf_few σ (tf_top σ N 0 (-1)) N 0 (-1) 0 else if σ 0 0 0 = 3 then tf_seedA N (tf_top σ N 0 (-1)) σ else tf_next σ (tf_top σ N 0 (-1)) N 0 (-1))
  else tf_overdue N σ
def tf_chS (N : Nat) (σ : St) : St :=
  if tf_overdue N σ = -1 then (if tf_top σ N 0 (-1) = -1 then σ else if σ 0 0 0 = 1 ∨ σ 0 0 0 = 2 then σ else if σ 0 0 0 = 3 then tf_seedS N (tf_top σ N 0 (-1)) σ else σ) else σ
def tf_begin (σ : St) (t : Nat) : St :=
  su (su (su (su σ 0 0 5 (nI t)) 0 0 6 (σ 0 0 2 - 1)) 1 t 7 (σ 1 t 7 + 1)) 0 0 10 (σ 0 0 10 + 1)
def tf_tailA (N : Nat) (σ : St) : Int32 :=
  if tf_chA N σ = -1 then -1 else if tf_chA N σ = tf_chS N σ 0 0 4 then tf_chA N σ else if tf_chS N σ 0 0 4 = -1 then tf_chA N σ else if tf_chS N σ 0 0 2 = 0 then tf_chA N σ else -1
def tf_tailS (N : Nat) (σ : St) : St :=
  if tf_chA N σ = -1 then su (tf_chS N σ) 0 0 9 (tf_chS N σ 0 0 9 + 1) else if tf_chA N σ = tf_chS N σ 0 0 4 then tf_chS N σ else if tf_chS N σ 0 0 4 = -1 then tf_chS N σ else if tf_chS N σ 0 0 2 = 0 then tf_chS N σ else tf_begin (tf_chS N σ) (tf_chA N σ).toNatClampNeg
def tf_goA (N : Nat) (σ : St) : Int32 :=
  if σ 0 0 6 ≤ 0 then (if σ 0 0 5 = -1 then tf_tailA N σ else if σ 1 (σ 0 0 5).toNatClampNeg 8 = 0 then tf_tailA N σ else σ 0 0 5) else -1
def tf_goS (N : Nat) (σ : St) : St :=
  if σ 0 0 6 ≤ 0 then (if σ 0 0 5 = -1 then tf_tailS N σ else if σ 1 (σ 0 0 5).toNatClampNeg 8 = 0 then tf_tailS N σ else σ) else su (su σ 0 0 6 (σ 0 0 6 - 1)) 0 0 10 (su σ 0 0 6 (σ 0 0 6 - 1) 0 0 10 + 1)
def tf_wt1 (g : Int32) (σ : St) (t : Nat) : St :=
  if σ 1 t 8 = 0 then σ else if nI t = g then σ else
    su (su σ 1 t 4 (σ 1 t 4 + 1)) 1 t 5 (if su σ 1 t 4 (σ 1 t 4 + 1) 1 t 5 < su σ 1 t 4 (σ 1 t 4 + 1) 1 t 4 then su σ 1 t 4 (σ 1 t 4 + 1) 1 t 4 else su σ 1 t 4 (σ 1 t 4 + 1) 1 t 5)
def tf_wt (g : Int32) : Nat → Nat → St → St
  | 0, _, σ => σ
  | n + 1, t, σ => tf_wt g n (t + 1) (tf_wt1 g σ t)
def tf_let (σ : St) (t : Nat) : St :=
  su (su (su (su (su σ 1 t 4 0) 1 t 6 (su σ 1 t 4 0 1 t 6 + 1)) 0 0 8 (σ 0 0 8 + 1)) 0 0 4 (nI t)) 0 0 5 (-1)
def tf_p1 (N : Nat) (σ : St) : St := tf_see N 0 (su σ 0 0 7 (σ 0 0 7 + 1))
def tf_plA (N : Nat) (σ : St) : Int32 := tf_goA N (tf_p1 N σ)
def tf_plS (N : Nat) (σ : St) : St :=
  if tf_plA N σ = -1 then tf_wt (tf_plA N σ) N 0 (tf_goS N (tf_p1 N σ)) else tf_let (tf_wt (tf_plA N σ) N 0 (tf_goS N (tf_p1 N σ))) (tf_plA N σ).toNatClampNeg
def tf_rn (N : Nat) : Nat → St → Int32 → Int32 × St
  | 0, σ, g => (g, σ)
  | n + 1, σ, g => if tf_plA N σ = -1 then tf_rn N n (tf_plS N σ) g else tf_rn N n (tf_plS N σ) (g + 1)
def tf_sum (σ : St) : Nat → Nat → Int32 → Int32
  | 0, _, a => a
  | n + 1, q, a => tf_sum σ n (q + 1) (a + σ 3 q 0)
def tf_ent (σ : St) (q : Nat) (th : Int32) : Nat → Nat → Int32 → Int32
  | 0, _, h => h
  | n + 1, k, h => if σ 4 q k = th then tf_ent σ q th n (k + 1) (h + 1) else tf_ent σ q th n (k + 1) h
def tf_fst (σ : St) (q : Nat) (th : Int32) : Nat → Nat → Int32
  | 0, _ => -1
  | n + 1, k => if th = -1 then nI k else if σ 4 q k = th then nI k else tf_fst σ q th n (k + 1)
def tf_app (σ : St) (q n : Nat) (th v : Int32) : St := su (su (su σ 4 q n th) 5 q n v) 3 q 0 (nI (n + 1))
def tf_cl (q : Nat) : Nat → Nat → St → St
  | 0, _, σ => σ
  | n + 1, k, σ => tf_cl q n (k + 1) (su (su σ 4 q k (σ 4 q (k + 1))) 5 q k (su σ 4 q k (σ 4 q (k + 1)) 5 q (k + 1)))
def tf_gcd : Nat → Int32 → Int32 → Int32
  | 0, a, _ => a
  | n + 1, a, b => if b = 0 then a else tf_gcd n b (a - a / b * b)
def tf_putA (σ : St) (q t K : Nat) : Int32 := if σ 6 q t ≤ tf_ent σ q (nI t) K 0 0 then -1 else if σ 3 q 0 < 32 then tf_ent σ q (nI t) K 0 0 + 1 else -1
def tf_putS (σ : St) (q t K : Nat) (v : Int32) : St := if σ 6 q t ≤ tf_ent σ q (nI t) K 0 0 then σ else if σ 3 q 0 < 32 then tf_app σ q K (nI t) v else σ
def tf_core (σ : St) : Nat := if σ 0 0 4 = -1 then 0 else (σ 0 0 4).toNatClampNeg
def tf_col : Nat → Nat
  | 0 => 4
  | 1 => 5
  | 2 => 6
  | 3 => 3
  | 4 => 2
  | _ => 7
def tf_shA (σ : St) (t : Nat) (x : Int32) : Int32 := if tf_gcd 64 (σ 1 t 6) (σ 0 0 8) = 0 then (if x = 0 then 0 else 1) else (if x = 0 then σ 1 t 6 / tf_gcd 64 (σ 1 t 6) (σ 0 0 8) else σ 0 0 8 / tf_gcd 64 (σ 1 t 6) (σ 0 0 8))
def tf_cntA (N : Nat) (σ : St) (x : Int32) : Int32 := if x = 0 then σ 0 0 7 else if x = 1 then σ 0 0 8 else if x = 2 then σ 0 0 9 else if x = 3 then σ 0 0 10 else if x = 4 then nI N else if x = 5 then σ 0 0 4 else if x = 6 then σ 0 0 5 else if x = 7 then tf_sum σ 8 0 0 else -1
