theorem Kt.mono {l : Launch} {y : MethodName} {cc : ByteArray} {nL : Nat} {ret : Option FieldType} {rm : Room} {mc ms : Nat} {D : va_G} {ct : Ct} {av : List Value} {sz : Nat} {w0 : va_W} {Φ Φ' : Option Value → va_W → Prop} (h : Kt l y cc nL ret rm mc ms D ct av sz w0 Φ (fun _ _ => False)) (hm : ∀ v w, Φ v w → Φ' v w) : Kt l y cc nL ret rm mc ms D ct av sz w0 Φ' (fun _ _ => False) := by
  intro p e ha hc hk s m args below hf happ hP hK
  obtain ⟨k, o, h1, h2, h3, hQ⟩ := h p e ha hc hk s m args below hf happ hP hK
  refine ⟨k, o, h1, h2, h3, ?_⟩
  rcases hQ with ⟨⟨⟨v, w1, q1, q2, q3⟩, q4⟩, q5⟩ | ⟨q, rfl, E, ce, L, ⟨⟨w1, hx, -⟩, -⟩, -⟩
  · exact Or.inl ⟨⟨⟨v, w1, q1, hm _ _ q2, q3⟩, q4⟩, q5⟩
  · exact hx.elim

set_option maxHeartbeats 4000000 in
set_option maxRecDepth 100000 in
theorem z_rule (l : Launch) (hst : l.stackTraces = false) (D : va_G) (ct : Ct) (ad : Ad) (N : Nat) (hN : N ≤ 16) (h0 : 0 < N) (σ : St) (mm : Nat) (hmm : mm < 2 ^ 29) (hI : Iv N mm σ) (o : Nat) (f : Nat → Int64) (p0 : Int32) (sz : Nat) : KtH l yW_rule cW_rule 4 (some .int) [(0, 9, 12, 13)] (r1 9) 1 6 D ct [.ref (ad 0 0), .int p0, .ref o] sz (wT ct ad N σ ++ [(o, eJ (ct 3) f)]) (fun v w => ∃ (k B : Int32) (g : Nat → Int64) (σ' : St), v = some (.int k) ∧ w = wT ct ad N σ' ++ [(o, eJ (ct 3) g)] ∧ (k = 0 → g 0 = B.toInt64) ∧ (Iv N (mm + 2000) σ' ∧ ∀ (am : Nat → Nat) (th : Int32) (sz : Nat), Kt l yM_rule cM_rule 3 (some .int) (r0 1) 0 0 D ct [.ref (am 0), .int p0] sz (wM ct am N th σ) (fun v w => v = some (.int B) ∧ w = wM ct am N k σ') (fun _ _ => False))) := by
  refine h_rule l hst D ct ad N σ o f p0 sz (fun sz => c_rule l hst D ct ad N hN σ sz p0) (fun k B σ' => (Iv N (mm + 2000) σ' ∧ ∀ (am : Nat → Nat) (th : Int32) (sz : Nat), Kt l yM_rule cM_rule 3 (some .int) (r0 1) 0 0 D ct [.ref (am 0), .int p0] sz (wM ct am N th σ) (fun v w => v = some (.int B) ∧ w = wM ct am N k σ') (fun _ _ => False))) (fun v w hp => ?_) (fun E w hp => ?_)
  · obtain ⟨hx, rfl, rfl⟩ := hp
    exact ⟨_, _, rfl, rfl, Iv_mono (Iv_rule hI hx) (by omega), fun am th sz => mo_rule l hst D ct am N hN h0 th σ sz p0 hx⟩
  · obtain ⟨hx, rfl, rfl⟩ := hp
    exact ⟨rfl, rfl, Iv_mono hI (by omega), fun am th sz => mx_rule l hst D ct am N hN h0 th σ sz p0 hx⟩

set_option maxHeartbeats 4000000 in
set_option maxRecDepth 100000 in
theorem z_bound (l : Launch) (hst : l.stackTraces = false) (D : va_G) (ct : Ct) (ad : Ad) (N : Nat) (hN : N ≤ 16) (h0 : 0 < N) (σ : St) (mm : Nat) (hmm : mm < 2 ^ 29) (hI : Iv N mm σ) (o : Nat) (f : Nat → Int64) (p0 : Int32) (sz : Nat) : KtH l yW_bound cW_bound 4 (some .int) [(0, 9, 12, 13)] (r1 9) 1 6 D ct [.ref (ad 0 0), .int p0, .ref o] sz (wT ct ad N σ ++ [(o, eJ (ct 3) f)]) (fun v w => ∃ (k B : Int32) (g : Nat → Int64) (σ' : St), v = some (.int k) ∧ w = wT ct ad N σ' ++ [(o, eJ (ct 3) g)] ∧ (k = 0 → g 0 = B.toInt64) ∧ (Iv N (mm + 2000) σ' ∧ ∀ (am : Nat → Nat) (th : Int32) (sz : Nat), Kt l yM_bound cM_bound 3 (some .int) (r0 1) 0 0 D ct [.ref (am 0), .int p0] sz (wM ct am N th σ) (fun v w => v = some (.int B) ∧ w = wM ct am N k σ') (fun _ _ => False))) := by
  refine h_bound l hst D ct ad N σ o f p0 sz (fun sz => c_bound l hst D ct ad N hN σ sz p0) (fun k B σ' => (Iv N (mm + 2000) σ' ∧ ∀ (am : Nat → Nat) (th : Int32) (sz : Nat), Kt l yM_bound cM_bound 3 (some .int) (r0 1) 0 0 D ct [.ref (am 0), .int p0] sz (wM ct am N th σ) (fun v w => v = some (.int B) ∧ w = wM ct am N k σ') (fun _ _ => False))) (fun v w hp => ?_) (fun E w hp => ?_)
  · obtain ⟨hx, rfl, rfl⟩ := hp
    exact ⟨_, _, rfl, rfl, Iv_mono (Iv_bound hI hx) (by omega), fun am th sz => mo_bound l hst D ct am N hN h0 th σ sz p0 hx⟩
  · obtain ⟨hx, rfl, rfl⟩ := hp
    exact ⟨rfl, rfl, Iv_mono hI (by omega), fun am th sz => mx_bound l hst D ct am N hN h0 th σ sz p0 hx⟩

set_option maxHeartbeats 4000000 in
set_option maxRecDepth 100000 in
theorem z_cost (l : Launch) (hst : l.stackTraces = false) (D : va_G) (ct : Ct) (ad : Ad) (N : Nat) (hN : N ≤ 16) (h0 : 0 < N) (σ : St) (mm : Nat) (hmm : mm < 2 ^ 29) (hI : Iv N mm σ) (o : Nat) (f : Nat → Int64) (p0 : Int32) (sz : Nat) : KtH l yW_cost cW_cost 4 (some .int) [(0, 9, 12, 13)] (r1 9) 1 6 D ct [.ref (ad 0 0), .int p0, .ref o] sz (wT ct ad N σ ++ [(o, eJ (ct 3) f)]) (fun v w => ∃ (k B : Int32) (g : Nat → Int64) (σ' : St), v = some (.int k) ∧ w = wT ct ad N σ' ++ [(o, eJ (ct 3) g)] ∧ (k = 0 → g 0 = B.toInt64) ∧ (Iv N (mm + 2000) σ' ∧ ∀ (am : Nat → Nat) (th : Int32) (sz : Nat), Kt l yM_cost cM_cost 3 (some .int) (r0 1) 0 0 D ct [.ref (am 0), .int p0] sz (wM ct am N th σ) (fun v w => v = some (.int B) ∧ w = wM ct am N k σ') (fun _ _ => False))) := by
  refine h_cost l hst D ct ad N σ o f p0 sz (fun sz => c_cost l hst D ct ad N hN σ sz p0) (fun k B σ' => (Iv N (mm + 2000) σ' ∧ ∀ (am : Nat → Nat) (th : Int32) (sz : Nat), Kt l yM_cost cM_cost 3 (some .int) (r0 1) 0 0 D ct [.ref (am 0), .int p0] sz (wM ct am N th σ) (fun v w => v = some (.int B) ∧ w = wM ct am N k σ') (fun _ _ => False))) (fun v w hp => ?_) (fun E w hp => ?_)
  · obtain ⟨hx, rfl, rfl⟩ := hp
    exact ⟨_, _, rfl, rfl, Iv_mono (Iv_su hI (by omega) (by omega) (by omega)) (by omega), fun am th sz => mo_cost l hst D ct am N hN h0 th σ sz p0 hx⟩
  · obtain ⟨hx, rfl, rfl⟩ := hp
    exact ⟨rfl, rfl, Iv_mono hI (by omega), fun am th sz => mx_cost l hst D ct am N hN h0 th σ sz p0 hx⟩

set_option maxHeartbeats 4000000 in
set_option maxRecDepth 100000 in
theorem z_ready (l : Launch) (hst : l.stackTraces = false) (D : va_G) (ct : Ct) (ad : Ad) (N : Nat) (hN : N ≤ 16) (h0 : 0 < N) (σ : St) (mm : Nat) (hmm : mm < 2 ^ 29) (hI : Iv N mm σ) (o : Nat) (f : Nat → Int64) (p0 p1 : Int32) (hz1 : p1 = 0 ∨ p1 = 1) (sz : Nat) : KtH l yW_ready cW_ready 5 (some .int) [(0, 17, 20, 25)] (r1 9) 1 6 D ct [.ref (ad 0 0), .int p0, .int p1, .ref o] sz (wT ct ad N σ ++ [(o, eJ (ct 3) f)]) (fun v w => ∃ (k B : Int32) (g : Nat → Int64) (σ' : St), v = some (.int k) ∧ w = wT ct ad N σ' ++ [(o, eJ (ct 3) g)] ∧ (k = 0 → g 0 = (if B = 0 then (0 : Int64) else 1)) ∧ (Iv N (mm + 2000) σ' ∧ ∀ (am : Nat → Nat) (th : Int32) (sz : Nat), Kt l yM_ready cM_ready 4 (some .boolean) (r0 2) 0 0 D ct [.ref (am 0), .int p0, .int p1] sz (wM ct am N th σ) (fun v w => v = some (.int B) ∧ w = wM ct am N k σ') (fun _ _ => False))) := by
  refine h_ready l hst D ct ad N σ o f p0 p1 sz (fun sz => c_ready l hst D ct ad N hN σ sz hI.2.2.1 p0 p1 hz1) (fun k B σ' => (Iv N (mm + 2000) σ' ∧ ∀ (am : Nat → Nat) (th : Int32) (sz : Nat), Kt l yM_ready cM_ready 4 (some .boolean) (r0 2) 0 0 D ct [.ref (am 0), .int p0, .int p1] sz (wM ct am N th σ) (fun v w => v = some (.int B) ∧ w = wM ct am N k σ') (fun _ _ => False))) (fun v w hp => ?_) (fun E w hp => ?_)
  · obtain ⟨t, ht, rfl, rfl, rfl⟩ := hp
    exact ⟨_, _, rfl, rfl, Iv_mono (Iv_ready hI hz1) (by omega), fun am th sz => mo_ready l hst D ct am N hN h0 th σ sz hI.2.2.1 t ht p1 hz1⟩
  · obtain ⟨hx, rfl, rfl⟩ := hp
    exact ⟨rfl, rfl, Iv_mono hI (by omega), fun am th sz => mx_ready l hst D ct am N hN h0 th σ sz p0 p1 hx⟩

set_option maxHeartbeats 4000000 in
set_option maxRecDepth 100000 in
theorem z_rank (l : Launch) (hst : l.stackTraces = false) (D : va_G) (ct : Ct) (ad : Ad) (N : Nat) (hN : N ≤ 16) (h0 : 0 < N) (σ : St) (mm : Nat) (hmm : mm < 2 ^ 29) (hI : Iv N mm σ) (o : Nat) (f : Nat → Int64) (p0 p1 : Int32) (sz : Nat) : KtH l yW_rank cW_rank 5 (some .int) [(0, 10, 13, 25), (0, 10, 17, 13)] (r1 9) 1 6 D ct [.ref (ad 0 0), .int p0, .int p1, .ref o] sz (wT ct ad N σ ++ [(o, eJ (ct 3) f)]) (fun v w => ∃ (k B : Int32) (g : Nat → Int64) (σ' : St), v = some (.int k) ∧ w = wT ct ad N σ' ++ [(o, eJ (ct 3) g)] ∧ (k = 0 → g 0 = B.toInt64) ∧ (Iv N (mm + 2000) σ' ∧ ∀ (am : Nat → Nat) (th : Int32) (sz : Nat), Kt l yM_rank cM_rank 4 (some .int) (r0 2) 0 0 D ct [.ref (am 0), .int p0, .int p1] sz (wM ct am N th σ) (fun v w => v = some (.int B) ∧ w = wM ct am N k σ') (fun _ _ => False))) := by
  refine h_rank l hst D ct ad N σ o f p0 p1 sz (fun sz => c_rank l hst D ct ad N hN σ sz p0 p1) (fun k B σ' => (Iv N (mm + 2000) σ' ∧ ∀ (am : Nat → Nat) (th : Int32) (sz : Nat), Kt l yM_rank cM_rank 4 (some .int) (r0 2) 0 0 D ct [.ref (am 0), .int p0, .int p1] sz (wM ct am N th σ) (fun v w => v = some (.int B) ∧ w = wM ct am N k σ') (fun _ _ => False))) (fun v w hp => ?_) (fun E w hp => ?_)
  · obtain ⟨t, ht, rfl, hx, rfl, rfl⟩ := hp
    exact ⟨_, _, rfl, rfl, Iv_mono (Iv_rank hI hx) (by omega), fun am th sz => mo_rank l hst D ct am N hN h0 th σ sz t ht p1 hx⟩
  · obtain ⟨⟨hx, rfl⟩ | ⟨⟨t, ht, rfl⟩, hx, rfl⟩, rfl⟩ := hp
    · exact ⟨rfl, Or.inl ⟨rfl, Iv_mono hI (by omega), fun am th sz => mx_rank l hst D ct am N hN h0 th σ sz p0 p1 hx⟩⟩
    · exact ⟨rfl, Or.inr ⟨rfl, Iv_mono hI (by omega), fun am th sz => my_rank l hst D ct am N hN h0 th σ sz t ht p1 hx⟩⟩

set_option maxHeartbeats 4000000 in
set_option maxRecDepth 100000 in
theorem z_sleep (l : Launch) (hst : l.stackTraces = false) (D : va_G) (ct : Ct) (ad : Ad) (N : Nat) (hN : N ≤ 16) (h0 : 0 < N) (σ : St) (mm : Nat) (hmm : mm < 2 ^ 29) (hI : Iv N mm σ) (o : Nat) (f : Nat → Int64) (p0 p1 : Int32) (sz : Nat) : KtH l yW_sleep cW_sleep 5 (some .int) [(0, 10, 13, 25), (0, 10, 17, 13)] (r1 9) 1 6 D ct [.ref (ad 0 0), .int p0, .int p1, .ref o] sz (wT ct ad N σ ++ [(o, eJ (ct 3) f)]) (fun v w => ∃ (k B : Int32) (g : Nat → Int64) (σ' : St), v = some (.int k) ∧ w = wT ct ad N σ' ++ [(o, eJ (ct 3) g)] ∧ (k = 0 → g 0 = B.toInt64) ∧ (Iv N (mm + 2000) σ' ∧ ∀ (am : Nat → Nat) (th : Int32) (sz : Nat), Kt l yM_sleep cM_sleep 4 (some .int) (r0 2) 0 0 D ct [.ref (am 0), .int p0, .int p1] sz (wM ct am N th σ) (fun v w => v = some (.int B) ∧ w = wM ct am N k σ') (fun _ _ => False))) := by
  refine h_sleep l hst D ct ad N σ o f p0 p1 sz (fun sz => c_sleep l hst D ct ad N hN σ sz p0 p1) (fun k B σ' => (Iv N (mm + 2000) σ' ∧ ∀ (am : Nat → Nat) (th : Int32) (sz : Nat), Kt l yM_sleep cM_sleep 4 (some .int) (r0 2) 0 0 D ct [.ref (am 0), .int p0, .int p1] sz (wM ct am N th σ) (fun v w => v = some (.int B) ∧ w = wM ct am N k σ') (fun _ _ => False))) (fun v w hp => ?_) (fun E w hp => ?_)
  · obtain ⟨t, ht, rfl, hx, rfl, rfl⟩ := hp
    exact ⟨_, _, rfl, rfl, Iv_mono (Iv_su hI (by omega) (by omega) (by omega)) (by omega), fun am th sz => mo_sleep l hst D ct am N hN h0 th σ sz t ht p1 hx⟩
  · obtain ⟨⟨hx, rfl⟩ | ⟨⟨t, ht, rfl⟩, hx, rfl⟩, rfl⟩ := hp
    · exact ⟨rfl, Or.inl ⟨rfl, Iv_mono hI (by omega), fun am th sz => mx_sleep l hst D ct am N hN h0 th σ sz p0 p1 hx⟩⟩
    · exact ⟨rfl, Or.inr ⟨rfl, Iv_mono hI (by omega), fun am th sz => my_sleep l hst D ct am N hN h0 th σ sz t ht p1 hx⟩⟩

set_option maxHeartbeats 4000000 in
set_option maxRecDepth 100000 in
theorem z_miss (l : Launch) (hst : l.stackTraces = false) (D : va_G) (ct : Ct) (ad : Ad) (N : Nat) (hN : N ≤ 16) (h0 : 0 < N) (σ : St) (mm : Nat) (hmm : mm < 2 ^ 29) (hI : Iv N mm σ) (o : Nat) (f : Nat → Int64) (p0 : Int32) (sz : Nat) : KtH l yW_miss cW_miss 4 (some .int) [(0, 9, 12, 25)] (r1 9) 1 6 D ct [.ref (ad 0 0), .int p0, .ref o] sz (wT ct ad N σ ++ [(o, eJ (ct 3) f)]) (fun v w => ∃ (k B : Int32) (g : Nat → Int64) (σ' : St), v = some (.int k) ∧ w = wT ct ad N σ' ++ [(o, eJ (ct 3) g)] ∧ (k = 0 → g 0 = B.toInt64) ∧ (Iv N (mm + 2000) σ' ∧ ∀ (am : Nat → Nat) (th : Int32) (sz : Nat), Kt l yM_miss cM_miss 2 (some .int) (r0 2) 0 0 D ct [.ref (am 0), .int p0] sz (wM ct am N th σ) (fun v w => v = some (.int B) ∧ w = wM ct am N k σ') (fun _ _ => False))) := by
  refine h_miss l hst D ct ad N σ o f p0 sz (fun sz => c_miss l hst D ct ad N hN σ sz p0) (fun k B σ' => (Iv N (mm + 2000) σ' ∧ ∀ (am : Nat → Nat) (th : Int32) (sz : Nat), Kt l yM_miss cM_miss 2 (some .int) (r0 2) 0 0 D ct [.ref (am 0), .int p0] sz (wM ct am N th σ) (fun v w => v = some (.int B) ∧ w = wM ct am N k σ') (fun _ _ => False))) (fun v w hp => ?_) (fun E w hp => ?_)
  · obtain ⟨t, ht, rfl, rfl, rfl⟩ := hp
    exact ⟨_, _, rfl, rfl, Iv_mono (Iv_su hI (by omega) (by omega) (by omega)) (by omega), fun am th sz => mo_miss l hst D ct am N hN h0 th σ sz t ht⟩
  · obtain ⟨hx, rfl, rfl⟩ := hp
    exact ⟨rfl, rfl, Iv_mono hI (by omega), fun am th sz => mx_miss l hst D ct am N hN h0 th σ sz p0 hx⟩

set_option maxHeartbeats 4000000 in
set_option maxRecDepth 100000 in
theorem z_run (l : Launch) (hst : l.stackTraces = false) (D : va_G) (ct : Ct) (ad : Ad) (N : Nat) (hN : N ≤ 16) (h0 : 0 < N) (σ : St) (mm : Nat) (hmm : mm < 2 ^ 29) (hI : Iv N mm σ) (o : Nat) (f : Nat → Int64) (p0 : Int32) (sz : Nat) : KtH l yW_run cW_run 4 (some .int) [(0, 9, 12, 13)] (r1 9) 1 6 D ct [.ref (ad 0 0), .int p0, .ref o] sz (wT ct ad N σ ++ [(o, eJ (ct 3) f)]) (fun v w => ∃ (k B : Int32) (g : Nat → Int64) (σ' : St), v = some (.int k) ∧ w = wT ct ad N σ' ++ [(o, eJ (ct 3) g)] ∧ (k = 0 → g 0 = B.toInt64) ∧ (Iv N (mm + 2000) σ' ∧ ∀ (am : Nat → Nat) (th : Int32) (sz : Nat), Kt l yM_run cM_run 4 (some .int) (r0 5) 0 0 D ct [.ref (am 0), .int p0] sz (wM ct am N th σ) (fun v w => v = some (.int B) ∧ w = wM ct am N k σ') (fun _ _ => False))) := by
  refine h_run l hst D ct ad N σ o f p0 sz (fun sz => c_run l hst D ct ad N hN σ sz hI.2.1 p0) (fun k B σ' => (Iv N (mm + 2000) σ' ∧ ∀ (am : Nat → Nat) (th : Int32) (sz : Nat), Kt l yM_run cM_run 4 (some .int) (r0 5) 0 0 D ct [.ref (am 0), .int p0] sz (wM ct am N th σ) (fun v w => v = some (.int B) ∧ w = wM ct am N k σ') (fun _ _ => False))) (fun v w hp => ?_) (fun E w hp => ?_)
  · obtain ⟨K, hk, rfl, rfl, rfl⟩ := hp
    exact ⟨_, _, rfl, rfl, (by rw [rn_2]; exact Iv_mono (Iv_it hN hI K (by omega)) (by omega) : Iv N (mm + 2000) _), fun am th sz => mo_run2 l hst D ct am N hN h0 th σ sz mm hmm hI K hk⟩
  · obtain ⟨hx, rfl, rfl⟩ := hp
    exact ⟨rfl, rfl, Iv_mono hI (by omega), fun am th sz => mx_run l hst D ct am N hN h0 th σ sz p0 hx⟩

set_option maxHeartbeats 4000000 in
set_option maxRecDepth 100000 in
theorem z_part (l : Launch) (hst : l.stackTraces = false) (D : va_G) (ct : Ct) (ad : Ad) (N : Nat) (hN : N ≤ 16) (h0 : 0 < N) (σ : St) (mm : Nat) (hmm : mm < 2 ^ 29) (hI : Iv N mm σ) (o : Nat) (f : Nat → Int64) (p0 p1 p2 : Int32) (sz : Nat) : KtH l yW_part cW_part 6 (some .int) [(0, 12, 15, 25), (0, 12, 19, 13)] (r1 9) 1 6 D ct [.ref (ad 0 0), .int p0, .int p1, .int p2, .ref o] sz (wT ct ad N σ ++ [(o, eJ (ct 3) f)]) (fun v w => ∃ (k B : Int32) (g : Nat → Int64) (σ' : St), v = some (.int k) ∧ w = wT ct ad N σ' ++ [(o, eJ (ct 3) g)] ∧ (k = 0 → g 0 = B.toInt64) ∧ (Iv N (mm + 2000) σ' ∧ ∀ (am : Nat → Nat) (th : Int32) (sz : Nat), Kt l yM_part cM_part 5 (some .int) (r0 2) 0 0 D ct [.ref (am 0), .int p0, .int p1, .int p2] sz (wM ct am N th σ) (fun v w => v = some (.int B) ∧ w = wM ct am N k σ') (fun _ _ => False))) := by
  refine h_part l hst D ct ad N σ o f p0 p1 p2 sz (fun sz => c_part l hst D ct ad N hN σ sz p0 p1 p2) (fun k B σ' => (Iv N (mm + 2000) σ' ∧ ∀ (am : Nat → Nat) (th : Int32) (sz : Nat), Kt l yM_part cM_part 5 (some .int) (r0 2) 0 0 D ct [.ref (am 0), .int p0, .int p1, .int p2] sz (wM ct am N th σ) (fun v w => v = some (.int B) ∧ w = wM ct am N k σ') (fun _ _ => False))) (fun v w hp => ?_) (fun E w hp => ?_)
  · obtain ⟨q, t, hq, rfl, ht, rfl, hx, rfl, rfl⟩ := hp
    exact ⟨_, _, rfl, rfl, Iv_mono (Iv_su hI (by omega) (by omega) (by omega)) (by omega), fun am th sz => mo_part l hst D ct am N hN h0 th σ sz q hq t ht p2 hx⟩
  · obtain ⟨⟨hx | ⟨⟨q, hq, rfl⟩, hx⟩, rfl⟩ | ⟨⟨⟨q, hq, rfl⟩, ⟨t, ht, rfl⟩⟩, hx, rfl⟩, rfl⟩ := hp
    · exact ⟨rfl, Or.inl ⟨rfl, Iv_mono hI (by omega), fun am th sz => mq_part l hst D ct am N hN h0 th σ sz p0 p1 p2 hx⟩⟩
    · exact ⟨rfl, Or.inl ⟨rfl, Iv_mono hI (by omega), fun am th sz => mt_part l hst D ct am N hN h0 th σ sz q hq p1 p2 hx⟩⟩
    · exact ⟨rfl, Or.inr ⟨rfl, Iv_mono hI (by omega), fun am th sz => my_part l hst D ct am N hN h0 th σ sz q hq t ht p2 hx⟩⟩

set_option maxHeartbeats 4000000 in
set_option maxRecDepth 100000 in
theorem z_put (l : Launch) (hst : l.stackTraces = false) (D : va_G) (ct : Ct) (ad : Ad) (N : Nat) (hN : N ≤ 16) (h0 : 0 < N) (σ : St) (mm : Nat) (hmm : mm < 2 ^ 29) (hI : Iv N mm σ) (o : Nat) (f : Nat → Int64) (p0 p1 p2 : Int32) (sz : Nat) : KtH l yW_put cW_put 6 (some .int) [(0, 12, 15, 25)] (r1 9) 1 6 D ct [.ref (ad 0 0), .int p0, .int p1, .int p2, .ref o] sz (wT ct ad N σ ++ [(o, eJ (ct 3) f)]) (fun v w => ∃ (k B : Int32) (g : Nat → Int64) (σ' : St), v = some (.int k) ∧ w = wT ct ad N σ' ++ [(o, eJ (ct 3) g)] ∧ (k = 0 → g 0 = B.toInt64) ∧ (Iv N (mm + 2000) σ' ∧ ∀ (am : Nat → Nat) (th : Int32) (sz : Nat), Kt l yM_put cM_put 4 (some .int) (r0 2) 0 0 D ct [.ref (am 0), .int p0, .int p1, .int p2] sz (wM ct am N th σ) (fun v w => v = some (.int B) ∧ w = wM ct am N k σ') (fun _ _ => False))) := by
  refine h_put l hst D ct ad N σ o f p0 p1 p2 sz (fun sz => c_put l hst D ct ad N hN σ sz hI.2.2.2.1 p0 p1 p2) (fun k B σ' => (Iv N (mm + 2000) σ' ∧ ∀ (am : Nat → Nat) (th : Int32) (sz : Nat), Kt l yM_put cM_put 4 (some .int) (r0 2) 0 0 D ct [.ref (am 0), .int p0, .int p1, .int p2] sz (wM ct am N th σ) (fun v w => v = some (.int B) ∧ w = wM ct am N k σ') (fun _ _ => False))) (fun v w hp => ?_) (fun E w hp => ?_)
  · obtain ⟨q, t, K, hq, rfl, ht, rfl, hK, hs, rfl, rfl⟩ := hp
    exact ⟨_, _, rfl, rfl, Iv_mono (Iv_put hI hK hs) (by omega), fun am th sz => (by rw [← (put_eq hK hs).1, ← (put_eq hK hs).2]; exact mo_put l hst D ct am N hN h0 th σ sz q hq t ht K hK hs p2)⟩
  · obtain ⟨hx | ⟨⟨q, hq, rfl⟩, hx⟩, rfl, rfl⟩ := hp
    · exact ⟨rfl, rfl, Iv_mono hI (by omega), fun am th sz => mq_put l hst D ct am N hN h0 th σ sz p0 p1 p2 hx⟩
    · exact ⟨rfl, rfl, Iv_mono hI (by omega), fun am th sz => mt_put l hst D ct am N hN h0 th σ sz q hq p1 p2 hx⟩

set_option maxHeartbeats 4000000 in
set_option maxRecDepth 100000 in
theorem z_take (l : Launch) (hst : l.stackTraces = false) (D : va_G) (ct : Ct) (ad : Ad) (N : Nat) (hN : N ≤ 16) (h0 : 0 < N) (σ : St) (mm : Nat) (hmm : mm < 2 ^ 29) (hI : Iv N mm σ) (o : Nat) (f : Nat → Int64) (p0 p1 : Int32) (sz : Nat) : KtH l yW_take cW_take 5 (some .int) [(0, 10, 13, 25), (0, 10, 17, 50)] (r1 9) 1 6 D ct [.ref (ad 0 0), .int p0, .int p1, .ref o] sz (wT ct ad N σ ++ [(o, eJ (ct 3) f)]) (fun v w => ∃ (k B : Int32) (g : Nat → Int64) (σ' : St), v = some (.int k) ∧ w = wT ct ad N σ' ++ [(o, eJ (ct 3) g)] ∧ (k = 0 → g 0 = B.toInt64) ∧ (Iv N (mm + 2000) σ' ∧ ∀ (am : Nat → Nat) (th : Int32) (sz : Nat), Kt l yM_take cM_take 6 (some .int) (r0 2) 0 0 D ct [.ref (am 0), .int p0, .int p1] sz (wM ct am N th σ) (fun v w => v = some (.int B) ∧ w = wM ct am N k σ') (fun _ _ => False))) := by
  refine h_take l hst D ct ad N σ o f p0 p1 sz (fun sz => c_take l hst D ct ad N hN σ sz hI.2.2.2.1 p0 p1) (fun k B σ' => (Iv N (mm + 2000) σ' ∧ ∀ (am : Nat → Nat) (th : Int32) (sz : Nat), Kt l yM_take cM_take 6 (some .int) (r0 2) 0 0 D ct [.ref (am 0), .int p0, .int p1] sz (wM ct am N th σ) (fun v w => v = some (.int B) ∧ w = wM ct am N k σ') (fun _ _ => False))) (fun v w hp => ?_) (fun E w hp => ?_)
  · obtain ⟨q, K, j, hq, rfl, hK, hs, hj, hf, hp1, rfl, rfl⟩ := hp
    have ht := tk_some hK hj hf
    refine ⟨_, _, rfl, rfl, Iv_mono (Iv_size (Iv_cl _ _ _ hI) (by omega)) (by omega), fun am th sz => ?_⟩
    rcases hp1 with rfl | ⟨t, ht9, rfl⟩
    · refine Kt.mono (mo_takeA l hst D ct am N hN h0 th σ sz q hq K hK hs) (fun v w h => ?_)
      rw [ht, cl_comm] at h
      rcases h with ⟨h, -⟩ | ⟨-, h⟩
      · omega
      · exact h
    · refine Kt.mono (mo_takeT l hst D ct am N hN h0 th σ sz q hq K hK hs t ht9) (fun v w h => ?_)
      rw [ht, cl_comm] at h
      rcases h with ⟨h, -⟩ | ⟨-, h⟩
      · omega
      · exact h
  · obtain ⟨⟨hx | ⟨⟨q, hq, rfl⟩, hx, h9⟩, rfl⟩ | ⟨⟨q, K, hq, rfl, hK, hs, hp1, hx⟩, rfl⟩, rfl⟩ := hp
    · exact ⟨rfl, Or.inl ⟨rfl, Iv_mono hI (by omega), fun am th sz => mq_take l hst D ct am N hN h0 th σ sz p0 p1 hx⟩⟩
    · exact ⟨rfl, Or.inl ⟨rfl, Iv_mono hI (by omega), fun am th sz => mt_take l hst D ct am N hN h0 th σ sz q hq p1 hx h9⟩⟩
    · have ht := tk_none hK hs hx
      refine ⟨rfl, Or.inr ⟨rfl, Iv_mono hI (by omega), fun am th sz => ?_⟩⟩
      rcases hp1 with rfl | ⟨t, ht9, rfl⟩
      · refine Kt.mono (mo_takeA l hst D ct am N hN h0 th σ sz q hq K hK hs) (fun v w h => ?_)
        rw [ht] at h
        rcases h with ⟨-, h⟩ | ⟨h, -⟩
        · exact h
        · omega
      · refine Kt.mono (mo_takeT l hst D ct am N hN h0 th σ sz q hq K hK hs t ht9) (fun v w h => ?_)
        rw [ht] at h
        rcases h with ⟨-, h⟩ | ⟨h, -⟩
        · exact h
        · omega

set_option maxHeartbeats 4000000 in
set_option maxRecDepth 100000 in
theorem z_entry (l : Launch) (hst : l.stackTraces = false) (D : va_G) (ct : Ct) (ad : Ad) (N : Nat) (hN : N ≤ 16) (h0 : 0 < N) (σ : St) (mm : Nat) (hmm : mm < 2 ^ 29) (hI : Iv N mm σ) (o : Nat) (f : Nat → Int64) (p0 p1 p2 : Int32) (sz : Nat) : KtH l yW_entry cW_entry 6 (some .int) [(0, 12, 15, 25)] (r1 9) 1 6 D ct [.ref (ad 0 0), .int p0, .int p1, .int p2, .ref o] sz (wT ct ad N σ ++ [(o, eJ (ct 3) f)]) (fun v w => ∃ (k B : Int32) (g : Nat → Int64) (σ' : St), v = some (.int k) ∧ w = wT ct ad N σ' ++ [(o, eJ (ct 3) g)] ∧ (k = 0 → g 0 = B.toInt64) ∧ (Iv N (mm + 2000) σ' ∧ ∀ (am : Nat → Nat) (th : Int32) (sz : Nat), Kt l yM_entry cM_entry 4 (some .int) (r0 2) 0 0 D ct [.ref (am 0), .int p0, .int p1, .int p2] sz (wM ct am N th σ) (fun v w => v = some (.int B) ∧ w = wM ct am N k σ') (fun _ _ => False))) := by
  refine h_entry l hst D ct ad N σ o f p0 p1 p2 sz (fun sz => c_entry l hst D ct ad N hN σ sz hI.2.2.2.1 p0 p1 p2) (fun k B σ' => (Iv N (mm + 2000) σ' ∧ ∀ (am : Nat → Nat) (th : Int32) (sz : Nat), Kt l yM_entry cM_entry 4 (some .int) (r0 2) 0 0 D ct [.ref (am 0), .int p0, .int p1, .int p2] sz (wM ct am N th σ) (fun v w => v = some (.int B) ∧ w = wM ct am N k σ') (fun _ _ => False))) (fun v w hp => ?_) (fun E w hp => ?_)
  · obtain ⟨q, K, j, u, hq, rfl, hK, hs, hj, rfl, hu, rfl, rfl, rfl⟩ := hp
    exact ⟨_, _, rfl, rfl, Iv_mono (hI) (by omega), fun am th sz => mo_entry l hst D ct am N hN h0 th σ sz q hq K hK hs j hj u hu⟩
  · obtain ⟨hx | ⟨q, K, hq, rfl, hK, hs, hx | ⟨⟨j, hj, rfl⟩, hx⟩⟩, rfl, rfl⟩ := hp
    · exact ⟨rfl, rfl, Iv_mono hI (by omega), fun am th sz => mq_entry l hst D ct am N hN h0 th σ sz p0 p1 p2 hx⟩
    · exact ⟨rfl, rfl, Iv_mono hI (by omega), fun am th sz => mk_entry l hst D ct am N hN h0 th σ sz q hq K hK hs p1 p2 hx⟩
    · exact ⟨rfl, rfl, Iv_mono hI (by omega), fun am th sz => mw_entry l hst D ct am N hN h0 th σ sz q hq K hK hs j hj p2 hx⟩

set_option maxHeartbeats 4000000 in
set_option maxRecDepth 100000 in
theorem z_set (l : Launch) (hst : l.stackTraces = false) (D : va_G) (ct : Ct) (ad : Ad) (N : Nat) (hN : N ≤ 16) (h0 : 0 < N) (σ : St) (mm : Nat) (hmm : mm < 2 ^ 29) (hI : Iv N mm σ) (o : Nat) (f : Nat → Int64) (p0 p1 : Int32) (sz : Nat) : KtH l yW_set cW_set 5 (some .int) [(0, 10, 13, 25)] (r1 9) 1 6 D ct [.ref (ad 0 0), .int p0, .int p1, .ref o] sz (wT ct ad N σ ++ [(o, eJ (ct 3) f)]) (fun v w => ∃ (k B : Int32) (g : Nat → Int64) (σ' : St), v = some (.int k) ∧ w = wT ct ad N σ' ++ [(o, eJ (ct 3) g)] ∧ (k = 0 → g 0 = B.toInt64) ∧ (Iv N (mm + 2000) σ' ∧ ∀ (am : Nat → Nat) (th : Int32) (sz : Nat), Kt l yM_set cM_set 5 (some .int) (r0 1) 0 0 D ct [.ref (am 0), .int p0, .int p1] sz (wM ct am N th σ) (fun v w => v = some (.int B) ∧ w = wM ct am N k σ') (fun _ _ => False))) := by
  refine h_set l hst D ct ad N σ o f p0 p1 sz (fun sz => c_set l hst D ct ad N hN σ sz hI.1 (core_lt hN h0 hI) p0 p1) (fun k B σ' => (Iv N (mm + 2000) σ' ∧ ∀ (am : Nat → Nat) (th : Int32) (sz : Nat), Kt l yM_set cM_set 5 (some .int) (r0 1) 0 0 D ct [.ref (am 0), .int p0, .int p1] sz (wM ct am N th σ) (fun v w => v = some (.int B) ∧ w = wM ct am N k σ') (fun _ _ => False))) (fun v w hp => ?_) (fun E w hp => ?_)
  · obtain ⟨k, hk, rfl, rfl, rfl⟩ := hp
    exact ⟨_, _, rfl, rfl, Iv_mono (Iv_su hI (by omega) (by omega) (by omega)) (by omega), fun am th sz => mo_set l hst D ct am N hN h0 th σ sz hI.1 (core_lt hN h0 hI) k hk p1⟩
  · obtain ⟨hx, rfl, rfl⟩ := hp
    exact ⟨rfl, rfl, Iv_mono hI (by omega), fun am th sz => mx_set l hst D ct am N hN h0 th σ sz p0 p1 hx⟩

set_option maxHeartbeats 4000000 in
set_option maxRecDepth 100000 in
theorem z_register (l : Launch) (hst : l.stackTraces = false) (D : va_G) (ct : Ct) (ad : Ad) (N : Nat) (hN : N ≤ 16) (h0 : 0 < N) (σ : St) (mm : Nat) (hmm : mm < 2 ^ 29) (hI : Iv N mm σ) (o : Nat) (f : Nat → Int64) (p0 p1 : Int32) (sz : Nat) : KtH l yW_register cW_register 5 (some .int) [(0, 10, 13, 25)] (r1 9) 1 6 D ct [.ref (ad 0 0), .int p0, .int p1, .ref o] sz (wT ct ad N σ ++ [(o, eJ (ct 3) f)]) (fun v w => ∃ (k B : Int32) (g : Nat → Int64) (σ' : St), v = some (.int k) ∧ w = wT ct ad N σ' ++ [(o, eJ (ct 3) g)] ∧ (k = 0 → g 0 = B.toInt64) ∧ (Iv N (mm + 2000) σ' ∧ ∀ (am : Nat → Nat) (th : Int32) (sz : Nat), Kt l yM_register cM_register 3 (some .int) (r0 2) 0 0 D ct [.ref (am 0), .int p0, .int p1] sz (wM ct am N th σ) (fun v w => v = some (.int B) ∧ w = wM ct am N k σ') (fun _ _ => False))) := by
  refine h_register l hst D ct ad N σ o f p0 p1 sz (fun sz => c_reg l hst D ct ad N hN σ sz p0 p1) (fun k B σ' => (Iv N (mm + 2000) σ' ∧ ∀ (am : Nat → Nat) (th : Int32) (sz : Nat), Kt l yM_register cM_register 3 (some .int) (r0 2) 0 0 D ct [.ref (am 0), .int p0, .int p1] sz (wM ct am N th σ) (fun v w => v = some (.int B) ∧ w = wM ct am N k σ') (fun _ _ => False))) (fun v w hp => ?_) (fun E w hp => ?_)
  · obtain ⟨t, ht, rfl, ⟨k, hk, rfl, rfl⟩, rfl⟩ := hp
    exact ⟨_, _, rfl, rfl, Iv_mono (hI) (by omega), fun am th sz => mo_reg l hst D ct am N hN h0 th σ sz t ht k hk⟩
  · obtain ⟨hx | ⟨⟨t, ht, rfl⟩, hx⟩, rfl, rfl⟩ := hp
    · exact ⟨rfl, rfl, Iv_mono hI (by omega), fun am th sz => mx_register l hst D ct am N hN h0 th σ sz p0 p1 hx⟩
    · exact ⟨rfl, rfl, Iv_mono hI (by omega), fun am th sz => my_reg l hst D ct am N hN h0 th σ sz t ht p1 hx⟩

set_option maxHeartbeats 4000000 in
set_option maxRecDepth 100000 in
theorem z_thread (l : Launch) (hst : l.stackTraces = false) (D : va_G) (ct : Ct) (ad : Ad) (N : Nat) (hN : N ≤ 16) (h0 : 0 < N) (σ : St) (mm : Nat) (hmm : mm < 2 ^ 29) (hI : Iv N mm σ) (o : Nat) (f : Nat → Int64) (p0 p1 : Int32) (sz : Nat) : KtH l yW_thread cW_thread 5 (some .int) [(0, 10, 13, 25)] (r1 9) 1 6 D ct [.ref (ad 0 0), .int p0, .int p1, .ref o] sz (wT ct ad N σ ++ [(o, eJ (ct 3) f)]) (fun v w => ∃ (k B : Int32) (g : Nat → Int64) (σ' : St), v = some (.int k) ∧ w = wT ct ad N σ' ++ [(o, eJ (ct 3) g)] ∧ (k = 0 → g 0 = B.toInt64) ∧ (Iv N (mm + 2000) σ' ∧ ∀ (am : Nat → Nat) (th : Int32) (sz : Nat), Kt l yM_thread cM_thread 3 (some .int) (r0 2) 0 0 D ct [.ref (am 0), .int p0, .int p1] sz (wM ct am N th σ) (fun v w => v = some (.int B) ∧ w = wM ct am N k σ') (fun _ _ => False))) := by
  refine h_thread l hst D ct ad N σ o f p0 p1 sz (fun sz => c_thr l hst D ct ad N hN σ sz p0 p1) (fun k B σ' => (Iv N (mm + 2000) σ' ∧ ∀ (am : Nat → Nat) (th : Int32) (sz : Nat), Kt l yM_thread cM_thread 3 (some .int) (r0 2) 0 0 D ct [.ref (am 0), .int p0, .int p1] sz (wM ct am N th σ) (fun v w => v = some (.int B) ∧ w = wM ct am N k σ') (fun _ _ => False))) (fun v w hp => ?_) (fun E w hp => ?_)
  · obtain ⟨t, ht, rfl, ⟨j, hj, rfl, rfl⟩, rfl⟩ := hp
    exact ⟨_, _, rfl, rfl, Iv_mono (hI) (by omega), fun am th sz => mo_thr l hst D ct am N hN h0 th σ sz t ht j hj⟩
  · obtain ⟨hx | ⟨⟨t, ht, rfl⟩, hx⟩, rfl, rfl⟩ := hp
    · exact ⟨rfl, rfl, Iv_mono hI (by omega), fun am th sz => mx_thread l hst D ct am N hN h0 th σ sz p0 p1 hx⟩
    · exact ⟨rfl, rfl, Iv_mono hI (by omega), fun am th sz => my_thr l hst D ct am N hN h0 th σ sz t ht p1 hx⟩

set_option maxHeartbeats 4000000 in
set_option maxRecDepth 100000 in
theorem z_share (l : Launch) (hst : l.stackTraces = false) (D : va_G) (ct : Ct) (ad : Ad) (N : Nat) (hN : N ≤ 16) (h0 : 0 < N) (σ : St) (mm : Nat) (hmm : mm < 2 ^ 29) (hI : Iv N mm σ) (o : Nat) (f : Nat → Int64) (p0 p1 : Int32) (sz : Nat) : KtH l yW_share cW_share 5 (some .int) [(0, 10, 13, 25)] (r1 9) 1 6 D ct [.ref (ad 0 0), .int p0, .int p1, .ref o] sz (wT ct ad N σ ++ [(o, eJ (ct 3) f)]) (fun v w => ∃ (k B : Int32) (g : Nat → Int64) (σ' : St), v = some (.int k) ∧ w = wT ct ad N σ' ++ [(o, eJ (ct 3) g)] ∧ (k = 0 → g 0 = B.toInt64) ∧ (Iv N (mm + 2000) σ' ∧ ∀ (am : Nat → Nat) (th : Int32) (sz : Nat), Kt l yM_share cM_share 6 (some .int) (r0 2) 0 0 D ct [.ref (am 0), .int p0, .int p1] sz (wM ct am N th σ) (fun v w => v = some (.int B) ∧ w = wM ct am N k σ') (fun _ _ => False))) := by
  refine h_share l hst D ct ad N σ o f p0 p1 sz (fun sz => c_shr l hst D ct ad N hN σ sz p0 p1) (fun k B σ' => (Iv N (mm + 2000) σ' ∧ ∀ (am : Nat → Nat) (th : Int32) (sz : Nat), Kt l yM_share cM_share 6 (some .int) (r0 2) 0 0 D ct [.ref (am 0), .int p0, .int p1] sz (wM ct am N th σ) (fun v w => v = some (.int B) ∧ w = wM ct am N k σ') (fun _ _ => False))) (fun v w hp => ?_) (fun E w hp => ?_)
  · obtain ⟨t, ht, rfl, ⟨u, hu, rfl, rfl⟩, rfl⟩ := hp
    exact ⟨_, _, rfl, rfl, Iv_mono (hI) (by omega), fun am th sz => (by rw [← sh_eq hI (by omega) ht hu]; exact mo_shr l hst D ct am N hN h0 th σ sz t ht u hu (sh_hyp hI (by omega) ht).1 (sh_hyp hI (by omega) ht).2)⟩
  · obtain ⟨hx | ⟨⟨t, ht, rfl⟩, hx⟩, rfl, rfl⟩ := hp
    · exact ⟨rfl, rfl, Iv_mono hI (by omega), fun am th sz => mx_share l hst D ct am N hN h0 th σ sz p0 p1 hx⟩
    · exact ⟨rfl, rfl, Iv_mono hI (by omega), fun am th sz => my_shr l hst D ct am N hN h0 th σ sz t ht p1 hx⟩

