/-! each call keeps it: set, thing, force, feed, sheets -/
theorem RE.gen {a a' σ σ' : zSg} {n t m : Nat} (hA : ∀ x, x < 34 → a' x = a x) (h51 : σ' 51 = σ 51) (h52 : σ' 52 = σ 52) (h54 : σ' 54 = σ 54) (h55 : σ' 55 = σ 55) (h50 : ∀ k, k < 12 → σ' 50 k = σ 50 k) (h : RE a σ n t m) : RE a' σ' n t m := by
  obtain ⟨⟨h1, h2, h3, h4, h5, h6⟩, ⟨h7, h8⟩, h9, h10, h11⟩ := h
  refine ⟨⟨h1, by rw [h50 11 (by omega)]; exact h2, h3, h4, by rw [h50 3 (by omega)]; exact h5, by rw [h50 4 (by omega)]; exact h6⟩, ⟨by rw [h50 7 (by omega), hA 1 (by decide)]; exact h7, by rw [h50 8 (by omega), hA 1 (by decide)]; exact h8⟩, fun i hi => ?_, fun i hi => by rw [hA _ (by omega)]; exact h10 i hi, fun t' ht => (h11 t' ht).gen (hA _ (by omega)) (hA _ (by omega)) (by rw [h52]) (fun i _ => by rw [h51])⟩
  rw [h54, h55, hA (8 + i) (by omega)]
  exact h9 i hi
theorem SV.ks {σ σ' : zSg} (h : SV σ σ') : KS σ σ' := ⟨h.1 59 (by decide) (by decide) (by decide) (by decide) (by decide), fun k hk => h.2 k (by omega)⟩
theorem INV.sm {a a' σ σ' : zSg} {n t m c n' t' : Nat} (h : INV a σ n t m c) (hR : RE a' σ' n' t' m) (hA : ∀ x, 16 ≤ x → a' x = a x) (hQ : SQR a' n' t' m) (hc : ∃ q, q < 8192 ∧ a' 1 6 = nI q) (hS : ∀ b, 50 < b → b ≠ 54 → b ≠ 55 → σ' b = σ b) (h50 : ∀ k, k ≠ 4 → k ≠ 7 → k ≠ 8 → k ≠ 11 → σ' 50 k = σ 50 k) (hn : n ≤ n') : INV a' σ' n' t' m c := by
  refine h.of hR (fun u hu => ?_) hQ (fun s hs => ?_) (h.2.2.2.2.2.1.k (hA _ (by decide)) (hA _ (by decide)) (h50 6 (by decide) (by decide) (by decide) (by decide)) (hS 53 (by decide) (by decide) (by decide))) hc ⟨hA _ (by decide), hA _ (by decide), hA _ (by decide), hA _ (by decide)⟩ ⟨hS 59 (by decide) (by decide) (by decide), fun k hk => h50 k (by omega) (by omega) (by omega) (by omega)⟩ (h50 27 (by decide) (by decide) (by decide) (by decide)) hn (Nat.le_refl _)
  · rw [hA (42 + 2 * u) (by omega), hA (43 + 2 * u) (by omega), hS 60 (by decide) (by decide) (by decide), hS 61 (by decide) (by decide) (by decide), hS 62 (by decide) (by decide) (by decide), hS 63 (by decide) (by decide) (by decide)]
    exact h.2.1 u hu
  · rw [hA _ (by omega)]
    exact h.2.2.2.2.1 s hs
theorem RE.dy {a σ : zSg} {n t m : Nat} {v : Int32} (H : RE a σ n t m) : RE (z_up a 1 5 v) (z_up σ 50 7 v) n t m := by
  obtain ⟨⟨h1, h2, h3, h4, h5, h6⟩, ⟨h7, h8⟩, h9, h10, h11⟩ := H
  have e8 : ∀ i, z_up a 1 5 v (8 + i) = a (8 + i) := fun i => zu_n _ _ _ _ _ (by omega)
  refine ⟨⟨h1, by rw [zu_k _ _ _ _ _ (by decide)]; exact h2, h3, h4, by rw [zu_k _ _ _ _ _ (by decide)]; exact h5, by rw [zu_k _ _ _ _ _ (by decide)]; exact h6⟩, ⟨by rw [z_up_s, z_up_s], by rw [zu_k _ _ _ _ _ (by decide), zu_k _ _ _ _ _ (by decide)]; exact h8⟩, fun i hi => ?_, fun i hi => by rw [e8]; exact h10 i hi, fun t' ht => ((h11 t' ht).mono (zu_n _ _ _ _ _ (by decide)) (zu_n _ _ _ _ _ (by decide))).cls (fun b hb => zu_n _ _ _ _ _ (by omega))⟩
  rw [zu_n _ _ _ _ _ (show (54 : Nat) ≠ 50 by decide), zu_n _ _ _ _ _ (show (55 : Nat) ≠ 50 by decide), e8]
  exact h9 i hi
theorem fit_n {lo v : Int32} {M : Nat} (hM : M < 2 ^ 31) (h0 : 0 ≤ lo) (h : f_fit lo (nI M) v = true) : ∃ j, j < M + 1 ∧ v = nI j := by
  obtain ⟨h1, h2⟩ := of_decide_eq_true h
  obtain ⟨j, hj, rfl⟩ := nI_of (x := v) (fun z => h1 (Int32.lt_of_lt_of_le z h0))
  rw [nI_ltI (by omega) hj] at h2
  exact ⟨j, by omega, rfl⟩
theorem INV.set {a σ : zSg} {n t m c : Nat} {w x v : Int32} (h : INV a σ n t m c) : INV (u_set a n w x v) (w_set σ n w x v) n t m c := by
  have hn8 := h.1.1.1
  obtain ⟨q2, q3, q4, q11⟩ := h.2.2.2.1
  unfold u_set w_set
  cases hk : k_set n w x v with
  | false => exact h
  | true =>
    unfold k_set at hk
    rw [Bool.and_eq_true, Bool.and_eq_true] at hk
    obtain ⟨⟨k1, k2⟩, k3⟩ := hk
    obtain ⟨wn, hw, rfl⟩ := rg_t (by decide) k1
    rw [nI_clamp (by omega)] at k2 ⊢
    show INV (u_put a wn x.toNatClampNeg v) (w_lay σ wn x.toNatClampNeg v) n t m c
    have thing : ∀ k M, k < 4 → wn = k + 1 → 1 ≤ k → lwO wn = 0 ∨ lwO wn = 1 → hiO wn = nI M → M < 2 ^ 31 → ((k = 1 ∧ M = 9) ∨ (k = 2 ∧ M = 20) ∨ (k = 3 ∧ M = 29)) → INV (u_put a wn x.toNatClampNeg v) (w_lay σ wn x.toNatClampNeg v) n t m c := by
      intro k M hk4 ew k1 hlo hhi hM hkM
      have hx : rg x n = true := by
        rw [decide_eq_false (show ¬ nI wn < 2 from fun z => by have z : nI wn < nI 2 := z; rw [nI_ltI (by omega) (by decide)] at z; omega), Bool.false_or] at k3
        exact k3
      obtain ⟨i, hi, rfl⟩ := rg_t (by omega) hx
      rw [nI_clamp (by omega)]
      rw [hhi] at k2
      obtain ⟨j, hj, rfl⟩ := fit_n hM (by rcases hlo with e | e <;> (rw [e]; decide)) k2
      have e1 : u_put a wn i (nI j) = mv a i k (nI j) := by
        unfold u_put
        rw [if_neg (by omega), if_neg (by omega), show wn - 1 = k by omega]
      have e2 : w_lay σ wn i (nI j) = z_up σ 55 (3 * i + (k - 1)) (nI j) := by
        unfold w_lay
        rw [if_neg (by omega), if_neg (by omega), if_pos (by omega), show wn - 2 = k - 1 by omega]
      have e3 : rcC k = 55 ∧ rcS k i = 3 * i + (k - 1) := by unfold rcC rcS; rw [if_neg (by omega), if_neg (by omega)]; exact ⟨rfl, rfl⟩
      have hR := h.1.chg (k := k) (x := i) (v := nI j) hk4 hi (TH1.mvk (h.1.2.2.2.1 i hi) (by omega))
      rw [e3.1, e3.2] at hR
      rw [e1, e2]
      have m1 : mv a i k (nI j) 1 = a 1 := mv_o _ _ _ _ _ (by omega)
      refine h.sm hR (fun y hy => mv_o _ _ _ _ _ (by omega)) (by unfold SQR; rw [m1]; exact ⟨q2, q3, q4, q11⟩) (by rw [m1]; exact h.2.2.2.2.2.2.1) (fun b b0 b4 b5 => zu_n _ _ _ _ _ b5) (fun k _ _ _ _ => by rw [zu_n _ _ _ _ _ (by decide)]) (Nat.le_refl _)
    have : wn = 0 ∨ wn = 1 ∨ wn = 2 ∨ wn = 3 ∨ wn = 4 := by omega
    rcases this with rfl | rfl | rfl | rfl | rfl
    · show INV (z_up a 1 5 v) (z_up σ 50 7 v) n t m c
      exact h.sm h.1.dy (fun y hy => zu_n _ _ _ _ _ (by omega)) ⟨(zu_k _ _ _ _ _ (by decide)).trans q2, (zu_k _ _ _ _ _ (by decide)).trans q3, (zu_k _ _ _ _ _ (by decide)).trans q4, (zu_k _ _ _ _ _ (by decide)).trans q11⟩ (by obtain ⟨q, hq, e⟩ := h.2.2.2.2.2.2.1; exact ⟨q, hq, (zu_k _ _ _ _ _ (by decide)).trans e⟩) (fun b b0 _ _ => zu_n _ _ _ _ _ (by omega)) (fun k _ k7 _ _ => zu_k _ _ _ _ _ k7) (Nat.le_refl _)
    · obtain ⟨j, hj, rfl⟩ := fit_n (M := 8191) (by decide) (by decide) k2
      show INV (z_up a 1 6 (nI j)) (z_up σ 50 8 (nI j)) n t m c
      exact h.sm h.1.cl (fun y hy => zu_n _ _ _ _ _ (by omega)) ⟨(zu_k _ _ _ _ _ (by decide)).trans q2, (zu_k _ _ _ _ _ (by decide)).trans q3, (zu_k _ _ _ _ _ (by decide)).trans q4, (zu_k _ _ _ _ _ (by decide)).trans q11⟩ ⟨j, hj, z_up_s _ _ _ _⟩ (fun b b0 _ _ => zu_n _ _ _ _ _ (by omega)) (fun k _ _ k8 _ => zu_k _ _ _ _ _ k8) (Nat.le_refl _)
    · exact thing 1 9 (by decide) rfl (by decide) (Or.inl rfl) rfl (by decide) (Or.inl ⟨rfl, rfl⟩)
    · exact thing 2 20 (by decide) rfl (by decide) (Or.inr rfl) rfl (by decide) (Or.inr (Or.inl ⟨rfl, rfl⟩))
    · exact thing 3 29 (by decide) rfl (by decide) (Or.inl rfl) rfl (by decide) (Or.inr (Or.inr ⟨rfl, rfl⟩))
theorem INV.pp {a a' σ σ' : zSg} {n t m c n' : Nat} (h : INV a σ n t m c) (hR : RE a' σ' n' t m) (h2 : a' 1 2 = nI n') (hA : PA a a') (hW : PW σ σ') (hn : n ≤ n') : INV a' σ' n' t m c := by
  obtain ⟨q2, q3, q4, q11⟩ := h.2.2.2.1
  exact h.sm hR hA.1 ⟨h2, (hA.2 3 (by decide)).trans q3, (hA.2 4 (by decide)).trans q4, (hA.2 11 (by decide)).trans q11⟩ (by rw [hA.2 6 (by decide)]; exact h.2.2.2.2.2.2.1) (fun b b0 b4 b5 => hW.1 b (by omega) b4 b5) (fun k _ _ _ k11 => hW.2 k k11) hn
theorem INV.thing {a σ : zSg} {n t m c : Nat} {x y z : Int32} (h : INV a σ n t m c) : ∃ n', INV (u_thing a n x y z) (w_thing σ n x y z) n' t m c := by
  obtain ⟨T1, T2, T3, T4⟩ := h.1.thing (x := x) (y := y) (z := z) h.2.2.2.1.1
  refine ⟨_, h.pp T1 T4 T2 T3 ?_⟩
  unfold n_thing
  cases k_thing x y z with
  | false => exact Nat.le_refl _
  | true => show n ≤ (if n = 8 then n else n + 1); split <;> omega
theorem INV.force {a σ : zSg} {n t m c : Nat} {x : Int32} (h : INV a σ n t m c) : ∃ t', INV (u_force a m x) (w_force σ m x) n t' m c := by
  obtain ⟨q2, q3, q4, q11⟩ := h.2.2.2.1
  unfold u_force w_force
  cases hx : rg x m with
  | false => exact ⟨t, h⟩
  | true =>
    obtain ⟨t', ht, rfl⟩ := rg_t (by have := h.1.1.2.2.2.1; omega) hx
    refine ⟨t', h.sm (h.1.ru ht) (fun y hy => zu_n _ _ _ _ _ (by omega)) ⟨(zu_k _ _ _ _ _ (by decide)).trans q2, (zu_k _ _ _ _ _ (by decide)).trans q3, z_up_s _ _ _ _, (zu_k _ _ _ _ _ (by decide)).trans q11⟩ (by obtain ⟨q, hq, e⟩ := h.2.2.2.2.2.2.1; exact ⟨q, hq, (zu_k _ _ _ _ _ (by decide)).trans e⟩) (fun b b0 _ _ => zu_n _ _ _ _ _ (by omega)) (fun k k4 _ _ _ => zu_k _ _ _ _ _ k4) (Nat.le_refl _)⟩
theorem INV.feed {a σ : zSg} {n t m c : Nat} {x : Int32} (h : INV a σ n t m c) : ∃ c', INV (u_feed a c x) (w_feed σ c x) n t m c' := by
  unfold u_feed w_feed
  cases hx : rg x 256 with
  | false => exact ⟨c, h⟩
  | true =>
    show ∃ c', INV (if c = 160 then a else z_up (z_up a 35 c x) 34 0 (nI (c + 1))) (if c = 160 then σ else z_up (z_up σ 53 c x) 50 6 (nI (c + 1))) n t m c'
    by_cases q : c = 160
    · rw [if_pos q, if_pos q]; exact ⟨c, h⟩
    rw [if_neg q, if_neg q]
    obtain ⟨k, hk, rfl⟩ := rg_t (by decide) hx
    obtain ⟨hc, h34, h6, ht⟩ := h.2.2.2.2.2.1
    have lo : ∀ y, y < 34 → z_up (z_up a 35 c (nI k)) 34 0 (nI (c + 1)) y = a y := fun y hy => by rw [zu_n _ _ _ _ _ (by omega), zu_n _ _ _ _ _ (by omega)]
    have up : ∀ y, 35 < y → z_up (z_up a 35 c (nI k)) 34 0 (nI (c + 1)) y = a y := fun y hy => by rw [zu_n _ _ _ _ _ (by omega), zu_n _ _ _ _ _ (by omega)]
    have so : ∀ b, b ≠ 50 → b ≠ 53 → z_up (z_up σ 53 c (nI k)) 50 6 (nI (c + 1)) b = σ b := fun b b0 b3 => by rw [zu_n _ _ _ _ _ b0, zu_n _ _ _ _ _ b3]
    have s5 : ∀ j, j ≠ 6 → z_up (z_up σ 53 c (nI k)) 50 6 (nI (c + 1)) 50 j = σ 50 j := fun j hj => by rw [zu_k _ _ _ _ _ hj, zu_n _ _ _ _ _ (by decide)]
    have hR : RE (z_up (z_up a 35 c (nI k)) 34 0 (nI (c + 1))) (z_up (z_up σ 53 c (nI k)) 50 6 (nI (c + 1))) n t m := by
      obtain ⟨⟨h1, h2, h3, h4, h5, h6⟩, ⟨h7, h8⟩, h9, h10, h11⟩ := h.1
      refine ⟨⟨h1, by rw [s5 11 (by decide)]; exact h2, h3, h4, by rw [s5 3 (by decide)]; exact h5, by rw [s5 4 (by decide)]; exact h6⟩, ⟨by rw [s5 7 (by decide), lo 1 (by decide)]; exact h7, by rw [s5 8 (by decide), lo 1 (by decide)]; exact h8⟩, fun i hi => ?_, fun i hi => by rw [lo _ (by omega)]; exact h10 i hi, fun t' ht => (h11 t' ht).gen (lo _ (by omega)) (lo _ (by omega)) (by rw [so 52 (by decide) (by decide)]) (fun i _ => by rw [so 51 (by decide) (by decide)])⟩
      rw [so 54 (by decide) (by decide), so 55 (by decide) (by decide), lo (8 + i) (by omega)]
      exact h9 i hi
    refine ⟨c + 1, h.of hR (fun u hu => ?_) (by unfold SQR; rw [lo 1 (by decide)]; exact h.2.2.2.1) (fun s hs => by rw [up _ (by omega)]; exact h.2.2.2.2.1 s hs) ⟨by omega, z_up_s _ _ _ _, z_up_s _ _ _ _, fun i hi => ?_⟩ (by rw [lo 1 (by decide)]; exact h.2.2.2.2.2.2.1) ⟨up _ (by decide), up _ (by decide), up _ (by decide), up _ (by decide)⟩ ⟨so 59 (by decide) (by decide), fun k hk => s5 k (by omega)⟩ (s5 27 (by decide)) (Nat.le_refl _) (Nat.le_refl _)⟩
    · rw [up (42 + 2 * u) (by omega), up (43 + 2 * u) (by omega), so 60 (by decide) (by decide), so 61 (by decide) (by decide), so 62 (by decide) (by decide), so 63 (by decide) (by decide)]
      exact h.2.1 u hu
    · rw [zu_n _ _ _ _ _ (show (53 : Nat) ≠ 50 by decide), zu_n _ _ _ _ _ (show (35 : Nat) ≠ 34 by decide)]
      by_cases w : i = c
      · rw [w, z_up_s, z_up_s]
        exact ⟨rfl, k, hk, rfl⟩
      · rw [zu_k _ _ _ _ _ w, zu_k _ _ _ _ _ w]
        exact ht i (by omega)
/-- sheets -/
theorem INV.sh {a a' σ σ' : zSg} {n t m c : Nat} (h : INV a σ n t m c) (hS : SH a' σ') (hA : ∀ x, x < 42 → a' x = a x) (hz : z_sz a') (hV : SV σ σ') : INV a' σ' n t m c := by
  refine h.of ((h.1.gen (fun x hx => hA x (by omega)) rfl rfl rfl rfl (fun _ _ => rfl)).sv hV) hS (by unfold SQR; rw [hA 1 (by decide)]; exact h.2.2.2.1) hz (h.2.2.2.2.2.1.k (hA _ (by decide)) (hA _ (by decide)) (hV.2 6 (by omega)) (hV.1 53 (by decide) (by decide) (by decide) (by decide) (by decide))) (by rw [hA 1 (by decide)]; exact h.2.2.2.2.2.2.1) ⟨hA _ (by decide), hA _ (by decide), hA _ (by decide), hA _ (by decide)⟩ hV.ks (hV.2 27 (by omega)) (Nat.le_refl _) (Nat.le_refl _)
