theorem su_cg {σ τ : St} {x y z a b c : Nat} {v v' : Int32} (h : ¬ (a = x ∧ b = y ∧ c = z) → σ a b c = τ a b c) (hv : v = v') : su σ x y z v a b c = su τ x y z v' a b c := by
  subst hv
  unfold su
  by_cases q : a = x ∧ b = y ∧ c = z
  · rw [if_pos q, if_pos q]
  · rw [if_neg q, if_neg q]; exact h q
theorem ix_neg {N : Nat} {x : Int32} (hN : N ≤ 16) (h : ix N x) : x = -1 ↔ x < 0 := by
  rcases h with q | ⟨t, ht, q⟩
  · rw [q]; decide
  · rw [q]
    exact ⟨fun z => absurd z (nI_m1 (by omega)), fun z => absurd z (nI_pos (by omega))⟩
theorem ix_nn2 {N : Nat} {x : Int32} (hN : N ≤ 16) (h : ix N x) : ¬ x = -1 ↔ 0 ≤ x := by
  rcases h with q | ⟨t, ht, q⟩
  · rw [q]; decide
  · rw [q]
    exact ⟨fun _ => nI_pos' (by omega), fun _ => nI_m1 (by omega)⟩
section Goes
variable {N : Nat} {P M : St}
theorem go_eq (hN : N ≤ 16) (h0 : 0 < N) (hE : ∀ a b c, ¬ (a = 1 ∧ c = 8) → P a b c = M a b c) (hC : ∀ t, t < N → P 1 t 8 = mf_can M t) {B r : Nat} (hB : B ≤ 1000) (hb : M 0 0 1 = nI B) (hr : r ≤ 3) (hk : M 0 0 0 = nI r) (hra : ∀ t, t < N → 0 ≤ M 1 t 1) (h4 : ix N (M 0 0 4)) (h5 : ix N (M 0 0 5)) :
    tf_goA N P = mf_goA N M ∧ (∀ a b c, ¬ (a = 1 ∧ c = 8) → ¬ (a = 0 ∧ b = 0 ∧ c = 5) → tf_goS N P a b c = mf_goS N M a b c) ∧ (tf_goA N P = -1 → tf_goS N P 0 0 5 = mf_goS N M 0 0 5) ∧ (¬ tf_goA N P = -1 → mf_goS N M 0 0 5 = -1) := by
  obtain ⟨hA, hS⟩ := ch_eq hN h0 hE hC hB hb hr hk hra h4
  have hAx := mf_chA_ix N M h0
  have e5 := hE 0 0 5 (by omega)
  have e6 := hE 0 0 6 (by omega)
  have hP5 : ix N (P 0 0 5) := by rw [e5]; exact h5
  have tail : tf_tailA N P = mf_tA N M ∧ (∀ a b c, ¬ (a = 1 ∧ c = 8) → ¬ (a = 0 ∧ b = 0 ∧ c = 5) → tf_tailS N P a b c = mf_tS N M a b c) ∧ (tf_tailA N P = -1 → tf_tailS N P 0 0 5 = mf_tS N M 0 0 5) ∧ (¬ tf_tailA N P = -1 → mf_tS N M 0 0 5 = -1) := by
    unfold tf_tailA mf_tA tf_tailS mf_tS
    rw [hA, hS 0 0 4 (by omega), hS 0 0 2 (by omega), hS 0 0 9 (by omega), su_n3 (show 4 ≠ 5 by decide), su_n3 (show 2 ≠ 5 by decide)]
    have s4 : ix N (mf_chS N M 0 0 4) := by
      rw [← hS 0 0 4 (by omega), tf_chS_k (by decide), hE 0 0 4 (by omega)]; exact h4
    by_cases hn : mf_chA N M = -1
    · have hn2 : ¬ 0 ≤ mf_chA N M := by rw [hn]; decide
      rw [if_pos hn, if_pos hn, if_neg hn2, if_neg hn2]
      exact ⟨rfl, fun a b c h _ => su_cg (fun _ => hS a b c h) rfl, fun _ => su_cg (fun _ => hS 0 0 5 (by omega)) rfl, fun q => absurd rfl q⟩
    · have hn2 : 0 ≤ mf_chA N M := (ix_nn2 hN hAx).mp hn
      rw [if_neg hn, if_neg hn, if_pos hn2, if_pos hn2]
      have plain : (∀ a b c, ¬ (a = 1 ∧ c = 8) → ¬ (a = 0 ∧ b = 0 ∧ c = 5) → tf_chS N P a b c = su (mf_chS N M) 0 0 5 (-1) a b c) ∧ (mf_chA N M = -1 → tf_chS N P 0 0 5 = su (mf_chS N M) 0 0 5 (-1) 0 0 5) ∧ (¬ mf_chA N M = -1 → su (mf_chS N M) 0 0 5 (-1) 0 0 5 = -1) :=
        ⟨fun a b c h h' => by rw [su_ne h']; exact hS a b c h, fun q => absurd q hn, fun _ => su_eq _ _ _ _ _⟩
      by_cases g1 : mf_chA N M = mf_chS N M 0 0 4
      · rw [if_pos g1, if_pos g1, if_pos g1, if_pos g1]; exact ⟨rfl, plain⟩
      · rw [if_neg g1, if_neg g1, if_neg g1, if_neg g1]
        by_cases g2 : mf_chS N M 0 0 4 = -1
        · have g3 := (ix_neg hN s4).mp g2
          rw [if_pos g2, if_pos g2, if_pos g3, if_pos g3]; exact ⟨rfl, plain⟩
        · have g3 : ¬ mf_chS N M 0 0 4 < 0 := fun q => g2 ((ix_neg hN s4).mpr q)
          rw [if_neg g2, if_neg g2, if_neg g3, if_neg g3]
          by_cases g4 : mf_chS N M 0 0 2 = 0
          · rw [if_pos g4, if_pos g4, if_pos g4]; exact ⟨rfl, plain⟩
          · rw [if_neg g4, if_neg g4, if_neg g4]
            obtain ⟨t1, t2⟩ := ix_cl hN hAx hn
            generalize ht : (mf_chA N M).toNatClampNeg = t at t1 t2 ⊢
            have key : ∀ a b c, ¬ (a = 1 ∧ c = 8) → tf_begin (tf_chS N P) t a b c = mf_beg (su (mf_chS N M) 0 0 5 (-1)) (mf_chA N M) a b c := by
              intro a b c h
              unfold tf_begin mf_beg
              rw [ht]
              refine su_cg (fun _ => su_cg (fun _ => su_cg (fun _ => su_cg (fun q5 => ?_) t2.symm) ?_) ?_) ?_
              · rw [su_ne q5]; exact hS a b c h
              · rw [su_n3 (show 2 ≠ 5 by decide), su_n3 (show 2 ≠ 5 by decide), hS 0 0 2 (by omega)]
              · rw [su_n1 (show 1 ≠ 0 by decide), su_n1 (show 1 ≠ 0 by decide), su_n1 (show 1 ≠ 0 by decide), hS 1 t 7 (by omega)]
              · rw [su_n1 (show 0 ≠ 1 by decide), su_n3 (show 10 ≠ 6 by decide), su_n3 (show 10 ≠ 5 by decide), su_n3 (show 10 ≠ 5 by decide), hS 0 0 10 (by omega)]
            exact ⟨rfl, fun a b c h _ => key a b c h, fun _ => key 0 0 5 (by omega), fun q => absurd rfl q⟩
  unfold tf_goA mf_goA tf_goS mf_goS
  rw [e5, e6]
  by_cases g6 : M 0 0 6 ≤ 0
  · rw [if_pos g6, if_pos g6, if_pos g6, if_pos g6]
    by_cases g5 : M 0 0 5 = -1
    · have g7 := (ix_neg hN h5).mp g5
      rw [if_pos g5, if_pos g5, if_pos g7, if_pos g7]; exact tail
    · have g7 : ¬ M 0 0 5 < 0 := fun q => g5 ((ix_neg hN h5).mpr q)
      obtain ⟨t1, t2⟩ := ix_cl hN h5 g5
      rw [if_neg g5, if_neg g5, if_neg g7, if_neg g7, hC _ t1]
      by_cases g8 : mf_can M (M 0 0 5).toNatClampNeg = 0
      · rw [if_pos g8, if_pos g8, if_pos g8, if_pos g8]; exact tail
      · rw [if_neg g8, if_neg g8, if_neg g8, if_neg g8]
        exact ⟨rfl, fun a b c h h' => by rw [su_ne h']; exact hE a b c h, fun q => absurd q g5, fun _ => su_eq _ _ _ _ _⟩
  · rw [if_neg g6, if_neg g6, if_neg g6, if_neg g6]
    have key : ∀ a b c, ¬ (a = 1 ∧ c = 8) → su (su P 0 0 6 (M 0 0 6 - 1)) 0 0 10 (su P 0 0 6 (M 0 0 6 - 1) 0 0 10 + 1) a b c = su (su M 0 0 6 (M 0 0 6 - 1)) 0 0 10 (su M 0 0 6 (M 0 0 6 - 1) 0 0 10 + 1) a b c := fun a b c h =>
      su_cg (fun _ => su_cg (fun _ => hE a b c h) rfl) (by rw [su_n3 (show 10 ≠ 6 by decide), su_n3 (show 10 ≠ 6 by decide), hE 0 0 10 (by omega)])
    exact ⟨rfl, fun a b c h _ => key a b c h, fun _ => key 0 0 5 (by omega), fun q => absurd rfl q⟩
/-- what the search of a goer leaves -/
theorem goS_k {a b c : Nat} (h1 : ¬ (a = 0 ∧ b = 0 ∧ (c = 3 ∨ c = 5 ∨ c = 6 ∨ c = 9 ∨ c = 10))) (h2 : ¬ (a = 1 ∧ c = 7)) : tf_goS N P a b c = P a b c := by
  have n3 : ¬ (a = 0 ∧ b = 0 ∧ c = 3) := by omega
  have n5 : ¬ (a = 0 ∧ b = 0 ∧ c = 5) := by omega
  have n6 : ¬ (a = 0 ∧ b = 0 ∧ c = 6) := by omega
  have n9 : ¬ (a = 0 ∧ b = 0 ∧ c = 9) := by omega
  have n10 : ¬ (a = 0 ∧ b = 0 ∧ c = 10) := by omega
  have n7 : ∀ t, ¬ (a = 1 ∧ b = t ∧ c = 7) := fun t q => h2 ⟨q.1, q.2.2⟩
  have hc := tf_chS_k (N := N) (σ := P) n3
  have ht : tf_tailS N P a b c = P a b c := by
    unfold tf_tailS tf_begin
    repeat' split
    all_goals simp only [su_ne n9, su_ne n10, su_ne n6, su_ne n5, su_ne (n7 _), hc]
  unfold tf_goS
  repeat' split
  all_goals first | exact ht | rfl | rw [su_ne n10, su_ne n6]
theorem row_eq {A : Int32} {G K : St} {b c : Nat} (hG : ∀ c, c ≠ 8 → G 1 b c = K 1 b c) (h8 : G 1 b 8 = mf_can K b) (hA : ¬ nI b = A) (hc : c ≠ 8) : tf_wt1 A G b 1 b c = mf_w1 A K b 1 b c := by
  unfold tf_wt1 mf_w1
  rw [h8, if_neg hA, if_neg hA]
  by_cases q : mf_can K b = 0
  · rw [if_pos q, if_pos q]; exact hG c hc
  · rw [if_neg q, if_neg q]
    refine su_cg (fun _ => su_cg (fun _ => hG c hc) (by rw [hG 4 (by decide)])) ?_
    rw [su_eq, su_n3 (show 5 ≠ 4 by decide), su_eq, su_n3 (show 5 ≠ 4 by decide), hG 4 (by decide), hG 5 (by decide)]
    by_cases z : K 1 b 5 < K 1 b 4 + 1
    · rw [if_pos z, if_neg (i_asy z)]
    · rw [if_neg z, if_pos (i32_le z)]
end Goes
/-- what holds of the class's state between calls: m bounds the cycles so far -/
def Iv (N m : Nat) (σ : St) : Prop := ix N (σ 0 0 4) ∧ ix N (σ 0 0 5) ∧ (∀ t, t < N → σ 1 t 0 = 0 ∨ σ 1 t 0 = 1) ∧ (∀ q, q < 8 → ∃ K, K ≤ 32 ∧ σ 3 q 0 = nI K) ∧ (∃ B, B ≤ 1000 ∧ σ 0 0 1 = nI B) ∧ (∃ r, r ≤ 3 ∧ σ 0 0 0 = nI r) ∧ (∀ t, t < N → ∃ r, r ≤ 15 ∧ σ 1 t 1 = nI r) ∧ (∃ G, G ≤ m ∧ σ 0 0 8 = nI G ∧ ∀ t, t < N → ∃ w, w ≤ G ∧ σ 1 t 6 = nI w)
section Step
variable {N m : Nat} {σ : St}
theorem st_hyp (hN : N ≤ 16) (h : Iv N m σ) : ix N (mf_p1 N σ 0 0 4) ∧ ix N (mf_p1 N σ 0 0 5) ∧ (0 ≤ mf_top (mf_p1 N σ) N 0 (-1) → ¬ mf_cnt (mf_p1 N σ) (mf_top (mf_p1 N σ) N 0 (-1)) N 0 0 = 0) := by
  refine ⟨?_, ?_, cnt_ne hN⟩
  · rw [← p1_eq (by omega), tf_p1_k (by decide) (by decide)]; exact h.1
  · rw [← p1_eq (by omega), tf_p1_k (by decide) (by decide)]; exact h.2.1
theorem st_go (hN : N ≤ 16) (h0 : 0 < N) (h : Iv N m σ) : tf_plA N σ = mf_stA N σ ∧ (∀ a b c, ¬ (a = 1 ∧ c = 8) → ¬ (a = 0 ∧ b = 0 ∧ c = 5) → tf_goS N (tf_p1 N σ) a b c = mf_goS N (mf_p1 N σ) a b c) ∧ (tf_plA N σ = -1 → tf_goS N (tf_p1 N σ) 0 0 5 = mf_goS N (mf_p1 N σ) 0 0 5) ∧ (¬ tf_plA N σ = -1 → mf_goS N (mf_p1 N σ) 0 0 5 = -1) := by
  obtain ⟨h4, h5, _⟩ := st_hyp hN h
  obtain ⟨_, _, _, _, ⟨B, hB, hb⟩, ⟨r, hr, hk⟩, hra, _⟩ := h
  refine go_eq hN h0 (fun a b c q => p1_eq q) (fun t ht => p1_can ht) hB (by rw [← p1_eq (by omega), tf_p1_k (by decide) (by decide)]; exact hb) hr (by rw [← p1_eq (by omega), tf_p1_k (by decide) (by decide)]; exact hk) (fun t ht => ?_) h4 h5
  obtain ⟨r', h1, h2⟩ := hra t ht
  rw [← p1_eq (by omega), tf_p1_k (by omega) (by omega), h2]
  exact nI_pos' (by omega)
theorem pl_ix (hN : N ≤ 16) (h : Iv N m σ) : ix N (tf_plA N σ) := tf_goA_ix N _ (p1_5 h.2.1)
theorem st_eq (hN : N ≤ 16) (h0 : 0 < N) (h : Iv N m σ) : ∀ a b c, ¬ (a = 1 ∧ c = 8) → tf_plS N σ a b c = mf_stS N σ a b c := by
  intro a b c hac
  obtain ⟨hA, hS, hS5, hM5⟩ := st_go hN h0 h
  have hAx := pl_ix hN h
  unfold tf_plS mf_stS mf_p3
  rw [← hA, wt_itr, w_itr]
  generalize hGG : tf_goS N (tf_p1 N σ) = G at *
  generalize hKK : mf_goS N (mf_p1 N σ) = K at *
  generalize tf_plA N σ = A at *
  have hcan : ∀ t, t < N → G 1 t 8 = mf_can K t := by
    intro t ht
    rw [← hGG, goS_k (by omega) (by omega), p1_can ht]
    have k0 : K 1 t 0 = mf_p1 N σ 1 t 0 := by rw [← hS 1 t 0 (by omega) (by omega), ← hGG, goS_k (by omega) (by omega), p1_eq (by omega)]
    have k2 : K 1 t 2 = mf_p1 N σ 1 t 2 := by rw [← hS 1 t 2 (by omega) (by omega), ← hGG, goS_k (by omega) (by omega), p1_eq (by omega)]
    unfold mf_can
    rw [k0, k2]
  have rows : ∀ b c, b < N → c ≠ 8 → ¬ nI b = A → itr (tf_wt1 A) N 0 G 1 b c = itr (mf_w1 A) N 0 K 1 b c := fun b c hb hc hA => by
    rw [itr_in (wt_row A) _ _ _ _ _ (Nat.zero_le b) (by omega), itr_in (w_row A) _ _ _ _ _ (Nat.zero_le b) (by omega)]
    exact row_eq (fun c hc => hS 1 b c (by omega) (by omega)) (hcan b hb) hA hc
  have outs : ∀ a b c, ¬ (a = 1 ∧ b < N) → itr (tf_wt1 A) N 0 G a b c = G a b c ∧ itr (mf_w1 A) N 0 K a b c = K a b c := fun a b c hr =>
    ⟨itr_out (wt_row A) _ _ _ _ _ _ (fun q => hr ⟨q.1, by omega⟩), itr_out (w_row A) _ _ _ _ _ _ (fun q => hr ⟨q.1, by omega⟩)⟩
  by_cases hn : A = -1
  · have hn2 : A < 0 := by rw [hn]; decide
    rw [if_pos hn, if_pos hn2, Int32.add_zero]
    have e1 : ∀ (ρ : St) (x y z a b c : Nat), su ρ x y z (ρ x y z) a b c = ρ a b c := by
      intro ρ x y z a b c
      unfold su
      by_cases q : a = x ∧ b = y ∧ c = z
      · rw [if_pos q, q.1, q.2.1, q.2.2]
      · rw [if_neg q]
    rw [e1, e1]
    by_cases hr : a = 1 ∧ b < N
    · obtain ⟨rfl, hb⟩ := hr
      exact rows b c hb (fun q => hac ⟨rfl, q⟩) (by rw [hn]; exact nI_m1 (by omega))
    · rw [(outs a b c hr).1, (outs a b c hr).2]
      by_cases q5 : a = 0 ∧ b = 0 ∧ c = 5
      · obtain ⟨rfl, rfl, rfl⟩ := q5; exact hS5 hn
      · exact hS a b c hac q5
  · obtain ⟨g1, g2⟩ := ix_cl hN hAx hn
    have hn2 : ¬ A < 0 := by rw [g2]; exact nI_pos (by omega)
    rw [if_neg hn, if_neg hn2]
    generalize A.toNatClampNeg = g at g1 g2
    subst g2
    unfold tf_let
    by_cases hr : a = 1 ∧ b < N
    · obtain ⟨rfl, hb⟩ := hr
      have hc8 : c ≠ 8 := fun q => hac ⟨rfl, q⟩
      rw [su_n1 (show 1 ≠ 0 by decide), su_n1 (show 1 ≠ 0 by decide), su_n1 (show 1 ≠ 0 by decide), su_n1 (show 1 ≠ 0 by decide), su_n1 (show 1 ≠ 0 by decide)]
      by_cases hbg : b = g
      · subst hbg
        have wg : ∀ c, itr (tf_wt1 (nI b)) N 0 G 1 b c = G 1 b c := fun c => by
          rw [itr_in (wt_row (nI b)) _ _ _ _ _ (Nat.zero_le b) (by omega)]
          unfold tf_wt1
          rw [if_pos rfl]
          split <;> rfl
        rw [itr_in (w_row (nI b)) _ _ _ _ _ (Nat.zero_le b) (by omega)]
        unfold mf_w1
        rw [if_pos rfl]
        refine su_cg (fun _ => su_cg (fun _ => ?_) rfl) ?_
        · rw [wg]; exact hS 1 b c (by omega) (by omega)
        · rw [su_n3 (show 6 ≠ 4 by decide), su_n3 (show 6 ≠ 4 by decide), wg, hS 1 b 6 (by omega) (by omega)]
      · rw [su_n2 hbg, su_n2 hbg]
        exact rows b c hb hc8 (fun q => hbg ((nI_eq (by omega) (by omega)).mp q))
    · have nr : ∀ z, ¬ (a = 1 ∧ b = g ∧ c = z) := fun z q => hr ⟨q.1, by omega⟩
      have o08 := outs 0 0 8 (by omega)
      by_cases q5 : a = 0 ∧ b = 0 ∧ c = 5
      · obtain ⟨rfl, rfl, rfl⟩ := q5
        rw [su_eq, su_n3 (show 5 ≠ 8 by decide), su_n3 (show 5 ≠ 4 by decide), (outs 0 0 5 (by omega)).2, hM5 hn]
      · rw [su_ne q5]
        by_cases q4 : a = 0 ∧ b = 0 ∧ c = 4
        · obtain ⟨rfl, rfl, rfl⟩ := q4
          rw [su_eq, su_n3 (show 4 ≠ 8 by decide), su_eq]
        · rw [su_ne q4]
          refine su_cg (fun _ => ?_) ?_
          · rw [su_ne (nr 6), su_ne (nr 4), su_ne q4, (outs a b c hr).1, (outs a b c hr).2]
            exact hS a b c hac q5
          · rw [su_n3 (show 8 ≠ 4 by decide), o08.1, o08.2, hS 0 0 8 (by omega) (by omega)]
/-- what a cycle leaves -/
theorem plS_k {a b c : Nat} (h1 : ¬ (a = 0 ∧ b = 0 ∧ 3 ≤ c)) (h2 : ¬ (a = 1 ∧ (c = 2 ∨ 4 ≤ c))) : tf_plS N σ a b c = σ a b c := by
  have hw : tf_wt (tf_plA N σ) N 0 (tf_goS N (tf_p1 N σ)) a b c = σ a b c := by
    rw [tf_wt_k (by omega), goS_k (by omega) (by omega), tf_p1_k (by omega) (by omega)]
  unfold tf_plS tf_let
  split
  · exact hw
  · rw [su_ne (by omega), su_ne (by omega), su_ne (by omega), su_ne (by omega), su_ne (by omega), hw]
theorem Iv_play (hN : N ≤ 16) (h : Iv N m σ) (hm : m < 2 ^ 30) : Iv N (m + 1) (tf_plS N σ) := by
  have hAx := pl_ix hN h
  obtain ⟨h4, h5, hbo, hsz, hB, hr, hra, ⟨G, hG, hg, hw⟩⟩ := h
  have w4 : tf_wt (tf_plA N σ) N 0 (tf_goS N (tf_p1 N σ)) 0 0 4 = σ 0 0 4 := by rw [tf_wt_k (by omega), goS_k (by omega) (by omega), tf_p1_k (by omega) (by omega)]
  have w8 : tf_wt (tf_plA N σ) N 0 (tf_goS N (tf_p1 N σ)) 0 0 8 = σ 0 0 8 := by rw [tf_wt_k (by omega), goS_k (by omega) (by omega), tf_p1_k (by omega) (by omega)]
  have w6 : ∀ t, tf_wt (tf_plA N σ) N 0 (tf_goS N (tf_p1 N σ)) 1 t 6 = σ 1 t 6 := fun t => by rw [tf_wt_k (by omega), goS_k (by omega) (by omega), tf_p1_k (by omega) (by omega)]
  refine ⟨?_, pl_5 hN h5, fun t ht => by rw [plS_k (by omega) (by omega)]; exact hbo t ht, fun q hq => by rw [plS_k (by omega) (by omega)]; exact hsz q hq, by rw [plS_k (by omega) (by omega)]; exact hB, by rw [plS_k (by omega) (by omega)]; exact hr, fun t ht => by rw [plS_k (by omega) (by omega)]; exact hra t ht, ?_⟩
  · unfold tf_plS
    by_cases hn : tf_plA N σ = -1
    · rw [if_pos hn, w4]; exact h4
    · rw [if_neg hn]
      unfold tf_let
      rw [su_n3 (by decide), su_eq]
      exact ix_t (ix_cl hN hAx hn).1
  · unfold tf_plS
    by_cases hn : tf_plA N σ = -1
    · rw [if_pos hn, w8]
      exact ⟨G, by omega, hg, fun t ht => by rw [w6]; exact hw t ht⟩
    · rw [if_neg hn]
      generalize tf_wt (tf_plA N σ) N 0 (tf_goS N (tf_p1 N σ)) = W at *
      generalize (tf_plA N σ).toNatClampNeg = g
      unfold tf_let
      refine ⟨G + 1, by omega, ?_, fun t ht => ?_⟩
      · rw [su_n3 (by decide), su_n3 (by decide), su_eq, w8, hg, nI_1]
      · obtain ⟨w, h1, h2⟩ := hw t ht
        rw [su_n1 (by decide), su_n1 (by decide), su_n1 (by decide)]
        by_cases q : t = g
        · subst q
          rw [su_eq, su_n3 (by decide), w6, h2, nI_1]
          exact ⟨w + 1, by omega, rfl⟩
        · rw [su_n2 q, su_n2 q, w6]
          exact ⟨w, by omega, h2⟩
end Step
