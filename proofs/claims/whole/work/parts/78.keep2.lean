/-! each call keeps it: text, image, back; the sheets' sizes -/
theorem INV.txt {a σ σ' : zSg} {n t m c m' : Nat} {g : PT} (h : INV a σ n t m c) (hR : RE (u_text g a m c) σ' n t m') (h3 : u_text g a m c 1 3 = nI m') (hm : m ≤ m') (hQ : QT σ σ') (h6 : m < 6 → σ' 50 6 = 0) (h7 : m = 6 → σ' = σ) : ∃ c', INV (u_text g a m c) σ' n t m' c' := by
  have hm6 := h.1.1.2.2.2.1
  have hm6' := hR.1.2.2.2.1
  obtain ⟨q2, q3, q4, q11⟩ := h.2.2.2.1
  by_cases q : m = 6
  · have eu : u_text g a m c = a := if_pos q
    have em : m' = m := by omega
    rw [eu, h7 q, em]
    exact ⟨c, h⟩
  · have hlt : m < 6 := by omega
    obtain ⟨o1, o2, o3⟩ := u_text_o (g := g) (a := a) (sz := c) hm6
    have up : ∀ y, 34 < y → u_text g a m c y = a y := fun y hy => o1 y (by omega) (by omega) (fun _ => by omega)
    refine ⟨0, h.of hR (fun u hu => ?_) ⟨(o2 2 (by decide)).trans q2, h3, (o2 4 (by decide)).trans q4, (o2 11 (by decide)).trans q11⟩ (fun s hs => by rw [up _ (by omega)]; exact h.2.2.2.2.1 s hs) ⟨Nat.zero_le _, o3 hlt, h6 hlt, fun i hi => by omega⟩ (by rw [o2 6 (by decide)]; exact h.2.2.2.2.2.2.1) ⟨up _ (by decide), up _ (by decide), up _ (by decide), up _ (by decide)⟩ ⟨hQ.1 59 (by decide) (by decide) (by decide), fun k hk => hQ.2 k (by omega)⟩ (hQ.2 27 (by omega)) (Nat.le_refl _) hm⟩
    rw [up (42 + 2 * u) (by omega), up (43 + 2 * u) (by omega), hQ.1 60 (by decide) (by decide) (by decide), hQ.1 61 (by decide) (by decide) (by decide), hQ.1 62 (by decide) (by decide) (by decide), hQ.1 63 (by decide) (by decide) (by decide)]
    exact h.2.1 u hu
theorem kp_o {a : zSg} {j x : Nat} (h : x < 36 ∨ 39 < x) : u_kp a j x = a x := by
  funext k
  unfold u_kp
  rw [if_neg (by omega), if_neg (fun z => by omega), if_neg (fun z => by omega), if_neg (fun z => by omega)]
theorem w_im_o {σ : zSg} {b : Nat} (h0 : b ≠ 50) (h9 : b ≠ 59) : w_im σ b = σ b := by
  unfold w_im
  rw [zu_n _ _ _ _ _ h0, zu_n _ _ _ _ _ h0, zu_n _ _ _ _ _ h0, zu_n _ _ _ _ _ h0, z_row_n _ _ _ _ h9]
theorem w_im_5 {σ : zSg} {k : Nat} (h : k < 35 ∨ 38 < k) : w_im σ 50 k = σ 50 k := by
  unfold w_im
  rw [zu_k _ _ _ _ _ (by omega), zu_k _ _ _ _ _ (by omega), zu_k _ _ _ _ _ (by omega), zu_k _ _ _ _ _ (by omega), z_row_n _ _ _ _ (by decide)]
theorem INV.im {a σ : zSg} {n t m c : Nat} (h : INV a σ n t m c) : INV (u_kp a n) (w_im σ) n t m c := by
  obtain ⟨q2, q3, q4, q11⟩ := h.2.2.2.1
  have hn8 := h.1.1.1
  have e1 := kp_o (a := a) (j := n) (x := 1) (by omega)
  have w9 : w_im σ 59 = f_film (σ 55) (σ 59) 24 := by unfold w_im; rw [zu_n _ _ _ _ _ (by decide), zu_n _ _ _ _ _ (by decide), zu_n _ _ _ _ _ (by decide), zu_n _ _ _ _ _ (by decide), z_row_s]
  have w5 : w_im σ 50 35 = σ 50 11 := by unfold w_im; rw [zu_k _ _ _ _ _ (by decide), zu_k _ _ _ _ _ (by decide), zu_k _ _ _ _ _ (by decide), z_up_s]
  have w6 : w_im σ 50 36 = σ 50 7 := by unfold w_im; rw [zu_k _ _ _ _ _ (by decide), zu_k _ _ _ _ _ (by decide), z_up_s]
  have w7 : w_im σ 50 37 = σ 50 8 := by unfold w_im; rw [zu_k _ _ _ _ _ (by decide), z_up_s]
  have w8 : w_im σ 50 38 = σ 50 4 := by unfold w_im; rw [z_up_s]
  refine ⟨h.1.gen (fun x hx => kp_o (by omega)) (w_im_o (by decide) (by decide)) (w_im_o (by decide) (by decide)) (w_im_o (by decide) (by decide)) (w_im_o (by decide) (by decide)) (fun k hk => w_im_5 (by omega)), fun u hu => ?_, (w_im_5 (by omega)).trans h.2.2.1, by unfold SQR; rw [e1]; exact h.2.2.2.1, fun s hs => by rw [kp_o (by omega)]; exact h.2.2.2.2.1 s hs, h.2.2.2.2.2.1.k (kp_o (by omega)) (kp_o (by omega)) (w_im_5 (by omega)) (w_im_o (by decide) (by decide)), by rw [e1]; exact h.2.2.2.2.2.2.1, Or.inr ⟨n, t, ⟨?_, Nat.le_refl _, h.1.1.2.2.1⟩, ⟨q2, w5.trans h.1.1.2.1, q4, w8.trans h.1.1.2.2.2.2.2⟩, ⟨w6.trans h.1.2.1.1, w7.trans h.1.2.1.2, h.2.2.2.2.2.2.1⟩, fun i hi => ?_⟩⟩
  · rw [kp_o (show 42 + 2 * u < 36 ∨ 39 < 42 + 2 * u by omega), kp_o (show 43 + 2 * u < 36 ∨ 39 < 43 + 2 * u by omega), w_im_o (show (60 : Nat) ≠ 50 by decide) (by decide), w_im_o (show (61 : Nat) ≠ 50 by decide) (by decide), w_im_o (show (62 : Nat) ≠ 50 by decide) (by decide), w_im_o (show (63 : Nat) ≠ 50 by decide) (by decide)]
    exact h.2.1 u hu
  · show ¬ (1 : Int32) = 0
    decide
  · obtain ⟨k0, r0, r1, r2⟩ := h.1.2.2.1 i hi
    obtain ⟨-, t1, t2, t3⟩ := h.1.2.2.2.1 i hi
    have f : ∀ j, j < 24 → w_im σ 59 j = σ 55 j := fun j hj => by rw [w9]; exact if_pos hj
    have u7 : u_kp a n 37 i = a (8 + i) 1 := by unfold u_kp; rw [if_neg (by decide), if_pos ⟨rfl, hi⟩]
    have u8 : u_kp a n 38 i = a (8 + i) 2 := by unfold u_kp; rw [if_neg (by decide), if_neg (fun z => by omega), if_pos ⟨rfl, hi⟩]
    have u9 : u_kp a n 39 i = a (8 + i) 3 := by unfold u_kp; rw [if_neg (by decide), if_neg (fun z => by omega), if_neg (fun z => by omega), if_pos ⟨rfl, hi⟩]
    rw [u7, u8, u9, f _ (by omega), f _ (by omega), f _ (by omega)]
    exact ⟨⟨r0, r1, r2⟩, t1, t2, t3⟩
theorem w_bk_o {σ : zSg} {b : Nat} (h0 : b ≠ 50) (h9 : b ≠ 55) : w_bk σ b = σ b := by
  unfold w_bk
  rw [zu_n _ _ _ _ _ h0, zu_n _ _ _ _ _ h0, zu_n _ _ _ _ _ h0, zu_n _ _ _ _ _ h0, z_row_n _ _ _ _ h9]
theorem w_bk_5 {σ : zSg} {k : Nat} (h4 : k ≠ 4) (h7 : k ≠ 7) (h8 : k ≠ 8) (h1 : k ≠ 11) : w_bk σ 50 k = σ 50 k := by
  unfold w_bk
  rw [zu_k _ _ _ _ _ h4, zu_k _ _ _ _ _ h8, zu_k _ _ _ _ _ h7, zu_k _ _ _ _ _ h1, z_row_n _ _ _ _ (by decide)]
theorem INV.bk {a σ : zSg} {n t m c k t' : Nat} (h : INV a σ n t m c) (hi : (¬ a 36 0 = 0 ∧ k ≤ n ∧ t' < m) ∧ (a 36 1 = nI k ∧ σ 50 35 = nI k ∧ a 36 2 = nI t' ∧ σ 50 38 = nI t') ∧ (σ 50 36 = a 36 3 ∧ σ 50 37 = a 36 4 ∧ ∃ q, q < 8192 ∧ a 36 4 = nI q) ∧ ∀ i, i < k → (σ 59 (3 * i) = a 37 i ∧ σ 59 (3 * i + 1) = a 38 i ∧ σ 59 (3 * i + 2) = a 39 i) ∧ (∃ x, x < 10 ∧ a 37 i = nI x) ∧ (∃ x, x < 21 ∧ a 38 i = nI x) ∧ ∃ x, x < 30 ∧ a 39 i = nI x) : INV (u_bk a k) (w_bk σ) k t' m c := by
  obtain ⟨q2, q3, q4, q11⟩ := h.2.2.2.1
  obtain ⟨⟨i0, ik, it⟩, ⟨i1, s35, i2, s38⟩, ⟨s36, s37, ic⟩, ith⟩ := hi
  obtain ⟨⟨h1, h2, h3, h4, h5, h6⟩, ⟨h7, h8⟩, h9, h10, h11⟩ := h.1
  have o : ∀ x, 16 ≤ x → u_bk a k x = a x := fun x hx => by
    funext j
    unfold u_bk
    rw [if_neg (by omega), if_neg (fun z => by omega)]
  have b2 : u_bk a k 1 2 = nI k := i1
  have b3 : u_bk a k 1 3 = nI m := q3
  have b4 : u_bk a k 1 4 = nI t' := i2
  have b5 : u_bk a k 1 5 = a 36 3 := rfl
  have b6 : u_bk a k 1 6 = a 36 4 := rfl
  have b11 : u_bk a k 1 11 = -1 := q11
  have th : ∀ i, i < k → u_bk a k (8 + i) 0 = a (8 + i) 0 ∧ u_bk a k (8 + i) 1 = a 37 i ∧ u_bk a k (8 + i) 2 = a 38 i ∧ u_bk a k (8 + i) 3 = a 39 i := fun i hi => by
    have e : 8 + i - 8 = i := by omega
    have e8 : ∀ q, u_bk a k (8 + i) q = (if q = 1 then a 37 (8 + i - 8) else if q = 2 then a 38 (8 + i - 8) else if q = 3 then a 39 (8 + i - 8) else a (8 + i) q) := fun q => by
      unfold u_bk
      rw [if_neg (by omega), if_pos ⟨by omega, by omega⟩]
    rw [e8, e8, e8, e8, e]
    exact ⟨rfl, rfl, rfl, rfl⟩
  have w55 : w_bk σ 55 = f_film (σ 59) (σ 55) 24 := by unfold w_bk; rw [zu_n _ _ _ _ _ (by decide), zu_n _ _ _ _ _ (by decide), zu_n _ _ _ _ _ (by decide), zu_n _ _ _ _ _ (by decide), z_row_s]
  have w11 : w_bk σ 50 11 = σ 50 35 := by unfold w_bk; rw [zu_k _ _ _ _ _ (by decide), zu_k _ _ _ _ _ (by decide), zu_k _ _ _ _ _ (by decide), z_up_s]
  have w7 : w_bk σ 50 7 = σ 50 36 := by unfold w_bk; rw [zu_k _ _ _ _ _ (by decide), zu_k _ _ _ _ _ (by decide), z_up_s]
  have w8 : w_bk σ 50 8 = σ 50 37 := by unfold w_bk; rw [zu_k _ _ _ _ _ (by decide), z_up_s]
  have w4 : w_bk σ 50 4 = σ 50 38 := by unfold w_bk; rw [z_up_s]
  have f : ∀ j, j < 24 → w_bk σ 55 j = σ 59 j := fun j hj => by rw [w55]; exact if_pos hj
  have hR : RE (u_bk a k) (w_bk σ) k t' m := by
    refine ⟨⟨by omega, w11.trans s35, it, h4, (w_bk_5 (by decide) (by decide) (by decide) (by decide)).trans h5, w4.trans s38⟩, ⟨by rw [w7, s36, b5], by rw [w8, s37, b6]⟩, fun i hi => ?_, fun i hi => ?_, fun t' ht => ((h11 t' ht).mono (w_bk_o (by decide) (by decide)) (w_bk_o (by decide) (by decide))).cls (fun b hb => o b hb)⟩
    · obtain ⟨k0, k1, k2, k3⟩ := th i hi
      obtain ⟨⟨j0, j1, j2⟩, -⟩ := ith i hi
      rw [k0, k1, k2, k3, w_bk_o (show (54 : Nat) ≠ 50 by decide) (by decide), f _ (by omega), f _ (by omega), f _ (by omega)]
      exact ⟨(h9 i (by omega)).1, j0, j1, j2⟩
    · obtain ⟨k0, k1, k2, k3⟩ := th i hi
      obtain ⟨-, t1, t2, t3⟩ := ith i hi
      obtain ⟨t0, -⟩ := h10 i (by omega)
      unfold TH1
      rw [k0, k1, k2, k3]
      exact ⟨t0, t1, t2, t3⟩
  refine ⟨hR, fun u hu => ?_, (w_bk_5 (by decide) (by decide) (by decide) (by decide)).trans h.2.2.1, ⟨b2, b3, b4, b11⟩, fun s hs => by rw [o _ (by omega)]; exact h.2.2.2.2.1 s hs, h.2.2.2.2.2.1.k (o _ (by decide)) (o _ (by decide)) (w_bk_5 (by decide) (by decide) (by decide) (by decide)) (w_bk_o (by decide) (by decide)), by rw [b6]; exact ic, Or.inr ⟨k, t', ?_⟩⟩
  · rw [o (42 + 2 * u) (by omega), o (43 + 2 * u) (by omega), w_bk_o (show (60 : Nat) ≠ 50 by decide) (by decide), w_bk_o (show (61 : Nat) ≠ 50 by decide) (by decide), w_bk_o (show (62 : Nat) ≠ 50 by decide) (by decide), w_bk_o (show (63 : Nat) ≠ 50 by decide) (by decide)]
    exact h.2.1 u hu
  · rw [o 36 (by decide), o 37 (by decide), o 38 (by decide), o 39 (by decide), w_bk_o (show (59 : Nat) ≠ 50 by decide) (by decide), w_bk_5 (show 35 ≠ 4 by decide) (by decide) (by decide) (by decide), w_bk_5 (show 36 ≠ 4 by decide) (by decide) (by decide) (by decide), w_bk_5 (show 37 ≠ 4 by decide) (by decide) (by decide) (by decide), w_bk_5 (show 38 ≠ 4 by decide) (by decide) (by decide) (by decide)]
    exact ⟨⟨i0, Nat.le_refl _, it⟩, ⟨i1, s35, i2, s38⟩, ⟨s36, s37, ic⟩, ith⟩
/-- sizes of sheets -/
theorem z_sz.shw {a : zSg} {s sz : Nat} {so : Int32} {f : Nat → Int32} (h : z_sz a) (hz : sz ≤ 40) : z_sz (z_shw a s so (nI sz) f) := by
  intro u hu
  by_cases q : u = s
  · rw [q]; exact ⟨sz, hz, z_shw_2 _ _ _ _ _⟩
  · rw [z_shw_o _ _ _ _ _ _ (by omega) (by omega)]; exact h u hu
theorem z_sz.sheet {a : zSg} {x y z : Int32} (h : z_sz a) : z_sz (u_sheet a x y z) ∧ ∀ b, b < 42 → u_sheet a x y z b = a b := by
  unfold u_sheet u_become
  by_cases k1 : k_sheet x y z = 1
  · rw [if_pos k1]
    exact ⟨h.shw (sz := 0) (by decide), fun b hb => z_shw_o _ _ _ _ _ _ (by omega) (by omega)⟩
  rw [if_neg k1]
  by_cases k3 : k_sheet x y z = 3
  · rw [if_pos k3]
    have hz : ¬ 40 < z ∧ ¬ z < 0 := by
      unfold k_sheet at k3
      cases hb : (!rg x 4 || decide (y < -1) || decide (2 < y)) with
      | true => rw [hb] at k3; exact absurd (show (0 : Nat) = 3 from k3) (by decide)
      | false =>
        rw [hb] at k3
        have k3 : (if y = -1 then 1 else if 40 < z then 0 else if z < 0 then 2 else 3) = 3 := k3
        by_cases q1 : y = -1
        · rw [if_pos q1] at k3; exact absurd k3 (by decide)
        · rw [if_neg q1] at k3
          by_cases q2 : 40 < z
          · rw [if_pos q2] at k3; exact absurd k3 (by decide)
          · rw [if_neg q2] at k3
            by_cases q3 : z < 0
            · rw [if_pos q3] at k3; exact absurd k3 (by decide)
            · exact ⟨q2, q3⟩
    obtain ⟨j, hj, rfl⟩ := nI_of2 (x := z) (M := 40) (n := 40) (by decide) hz.2 (Int32.not_lt.mp hz.1)
    exact ⟨h.shw hj, fun b hb => z_shw_o _ _ _ _ _ _ (by omega) (by omega)⟩
  · rw [if_neg k3]
    exact ⟨h, fun _ _ => rfl⟩
theorem z_sz.cell {a : zSg} {x y z : Int32} (h : z_sz a) : z_sz (u_cell a x y z) ∧ ∀ b, b < 42 → u_cell a x y z b = a b := by
  unfold u_cell
  by_cases k1 : k_cell a x y = 1
  · rw [if_pos k1]
    exact ⟨fun u hu => by rw [zu_n _ _ _ _ _ (by omega)]; exact h u hu, fun b hb => zu_n _ _ _ _ _ (by omega)⟩
  · rw [if_neg k1]
    exact ⟨h, fun _ _ => rfl⟩
theorem z_sz.copy {a : zSg} {x y o z c : Int32} (h : z_sz a) : z_sz (u_copy a x y o z c) ∧ ∀ b, b < 42 → u_copy a x y o z c b = a b := by
  unfold u_copy
  by_cases k1 : 0 ≤ k_copy a x y o z c
  · rw [if_pos k1]
    exact ⟨fun u hu => by rw [z_row_n _ _ _ _ (by omega)]; exact h u hu, fun b hb => z_row_n _ _ _ _ (by omega)⟩
  · rw [if_neg k1]
    exact ⟨h, fun _ _ => rfl⟩
theorem z_sz.film {a : zSg} {n t s i : Nat} (h : z_sz a) : z_sz (u_film a n t s i) ∧ ∀ b, b < 42 → u_film a n t s i b = a b := ⟨h.shw (sz := 13) (by decide), fun b hb => z_shw_o _ _ _ _ _ _ (by omega) (by omega)⟩
