/-! what holds between the class's cells and the reference's, call by call -/
def CEQ (a b : zSg) : Prop := (∀ x, x < 50 → x ≠ 1 → x ≠ 4 → x ≠ 5 → x ≠ 6 → x ≠ 7 → x ≠ 41 → b x = a x) ∧ ∀ y, y ≠ 9 → y ≠ 10 → b 1 y = a 1 y
def RQ (σ σ' : zSg) : Prop := (∀ b, 50 < b → b ≠ 56 → b ≠ 57 → b ≠ 58 → σ' b = σ b) ∧ ∀ k, (k < 12 ∨ (26 < k ∧ k ≠ 31 ∧ k ≠ 32 ∧ k ≠ 33)) → σ' 50 k = σ 50 k
theorem CEQ.rf {a : zSg} : CEQ a a := ⟨fun _ _ _ _ _ _ _ _ => rfl, fun _ _ _ => rfl⟩
theorem RQ.rf {a : zSg} : RQ a a := ⟨fun _ _ _ _ _ => rfl, fun _ _ => rfl⟩
theorem CEQ.trans {a b c : zSg} (h : CEQ a b) (h2 : CEQ b c) : CEQ a c := ⟨fun x x0 x1 x4 x5 x6 x7 x8 => (h2.1 x x0 x1 x4 x5 x6 x7 x8).trans (h.1 x x0 x1 x4 x5 x6 x7 x8), fun y y9 y10 => (h2.2 y y9 y10).trans (h.2 y y9 y10)⟩
theorem RQ.trans {a b c : zSg} (h : RQ a b) (h2 : RQ b c) : RQ a c := ⟨fun x x0 x6 x7 x8 => (h2.1 x x0 x6 x7 x8).trans (h.1 x x0 x6 x7 x8), fun k hk => (h2.2 k hk).trans (h.2 k hk)⟩
/-- the cells ahead of 50, from 50 on -/
def LO (σ σ' : zSg) : Prop := ∀ b, b < 50 → σ' b = σ b
def HI (σ σ' : zSg) : Prop := ∀ b, 50 ≤ b → σ' b = σ b
theorem LO.ceq {σ σ' : zSg} (h : LO σ σ') : CEQ σ σ' := ⟨fun x x0 _ _ _ _ _ _ => h x x0, fun y _ _ => by rw [h 1 (by decide)]⟩
theorem HI.rq {σ σ' : zSg} (h : HI σ σ') : RQ σ σ' := ⟨fun b b0 _ _ _ => h b (by omega), fun k _ => by rw [h 50 (by decide)]⟩
theorem SE.ceq {σ σ' : zSg} (h : SE σ σ') : CEQ σ σ' := ⟨fun x _ x1 x4 x5 x6 x7 _ => h.1 x x1 x4 x5 x6 x7, fun y y9 y10 => h.2 y y9 y10⟩
theorem SE.hi {σ σ' : zSg} (h : SE σ σ') : HI σ σ' := fun b hb => h.1 b (by omega) (by omega) (by omega) (by omega) (by omega)
theorem SQ.rq {σ σ' : zSg} (h : SQ σ σ') : RQ σ σ' := ⟨fun b b0 b6 b7 b8 => h.1.1 b (by omega) b6 b7 b8, fun k hk => by
  by_cases q : k = 27
  · rw [q]; exact h.2
  · exact h.1.2 k (by omega)⟩
theorem SQ.lo {σ σ' : zSg} (h : SQ σ σ') : LO σ σ' := fun b hb => h.1.1 b (by omega) (by omega) (by omega) (by omega)
theorem RE.ceq {a b σ : zSg} {n t m : Nat} (s : CEQ a b) (h : RE a σ n t m) : RE b σ n t m := by
  obtain ⟨⟨h1, h2, h3, h4, h5, h6⟩, ⟨h7, h8⟩, h9, h10, h11⟩ := h
  have e8 : ∀ i, i < n → b (8 + i) = a (8 + i) := fun i hi => s.1 _ (by omega) (by omega) (by omega) (by omega) (by omega) (by omega) (by omega)
  refine ⟨⟨h1, h2, h3, h4, h5, h6⟩, ⟨by rw [s.2 5 (by decide) (by decide)]; exact h7, by rw [s.2 6 (by decide) (by decide)]; exact h8⟩, fun i hi => by rw [e8 i hi]; exact h9 i hi, fun i hi => by rw [e8 i hi]; exact h10 i hi, fun t' ht => (h11 t' ht).gen (s.1 _ (by omega) (by omega) (by omega) (by omega) (by omega) (by omega) (by omega)) (s.1 _ (by omega) (by omega) (by omega) (by omega) (by omega) (by omega) (by omega)) rfl (fun _ _ => rfl)⟩
theorem RE.rq {a σ σ' : zSg} {n t m : Nat} (s : RQ σ σ') (h : RE a σ n t m) : RE a σ' n t m := by
  obtain ⟨⟨h1, h2, h3, h4, h5, h6⟩, ⟨h7, h8⟩, h9, h10, h11⟩ := h
  refine ⟨⟨h1, by rw [s.2 11 (by omega)]; exact h2, h3, h4, by rw [s.2 3 (by omega)]; exact h5, by rw [s.2 4 (by omega)]; exact h6⟩, ⟨by rw [s.2 7 (by omega)]; exact h7, by rw [s.2 8 (by omega)]; exact h8⟩, fun i hi => ?_, h10, fun t' ht => (h11 t' ht).mono (s.1 51 (by decide) (by decide) (by decide) (by decide)) (s.1 52 (by decide) (by decide) (by decide) (by decide))⟩
  rw [s.1 54 (by decide) (by decide) (by decide) (by decide), s.1 55 (by decide) (by decide) (by decide) (by decide)]
  exact h9 i hi
theorem SH.ceq {a b σ : zSg} (s : CEQ a b) (h : SH a σ) : SH b σ := by
  intro u hu
  rw [s.1 (42 + 2 * u) (by omega) (by omega) (by omega) (by omega) (by omega) (by omega) (by omega), s.1 (43 + 2 * u) (by omega) (by omega) (by omega) (by omega) (by omega) (by omega) (by omega)]
  exact h u hu
theorem SH.rq {a σ σ' : zSg} (s : RQ σ σ') (h : SH a σ) : SH a σ' := by
  intro u hu
  rw [s.1 60 (by decide) (by decide) (by decide) (by decide), s.1 61 (by decide) (by decide) (by decide) (by decide), s.1 62 (by decide) (by decide) (by decide) (by decide), s.1 63 (by decide) (by decide) (by decide) (by decide)]
  exact h u hu
/-- the tape -/
def TP (a σ : zSg) (c : Nat) : Prop := c ≤ 160 ∧ a 34 0 = nI c ∧ σ 50 6 = nI c ∧ ∀ i, i < c → σ 53 i = a 35 i ∧ ∃ k, k < 256 ∧ a 35 i = nI k
/-- the image -/
def IM (a σ : zSg) (n m : Nat) : Prop := (a 36 0 = 0 ∧ σ 50 35 = -1) ∨ ∃ k t', (¬ a 36 0 = 0 ∧ k ≤ n ∧ t' < m) ∧ (a 36 1 = nI k ∧ σ 50 35 = nI k ∧ a 36 2 = nI t' ∧ σ 50 38 = nI t') ∧ (σ 50 36 = a 36 3 ∧ σ 50 37 = a 36 4 ∧ ∃ q, q < 8192 ∧ a 36 4 = nI q) ∧ ∀ i, i < k → (σ 59 (3 * i) = a 37 i ∧ σ 59 (3 * i + 1) = a 38 i ∧ σ 59 (3 * i + 2) = a 39 i) ∧ (∃ x, x < 10 ∧ a 37 i = nI x) ∧ (∃ x, x < 21 ∧ a 38 i = nI x) ∧ ∃ x, x < 30 ∧ a 39 i = nI x
def SQR (a : zSg) (n t m : Nat) : Prop := a 1 2 = nI n ∧ a 1 3 = nI m ∧ a 1 4 = nI t ∧ a 1 11 = -1
def INV (a σ : zSg) (n t m c : Nat) : Prop := RE a σ n t m ∧ SH a σ ∧ σ 50 27 = -1 ∧ SQR a n t m ∧ z_sz a ∧ TP a σ c ∧ (∃ q, q < 8192 ∧ a 1 6 = nI q) ∧ IM a σ n m
/-- what most calls leave: the image of the class, of the reference -/
def KA (a a' : zSg) : Prop := a' 36 = a 36 ∧ a' 37 = a 37 ∧ a' 38 = a 38 ∧ a' 39 = a 39
def KS (σ σ' : zSg) : Prop := σ' 59 = σ 59 ∧ ∀ k, 34 < k → σ' 50 k = σ 50 k
theorem IM.k {a a' σ σ' : zSg} {n n' m m' : Nat} (hA : KA a a') (hK : KS σ σ') (hn : n ≤ n') (hm : m ≤ m') (h : IM a σ n m) : IM a' σ' n' m' := by
  unfold IM
  rw [hA.1, hA.2.1, hA.2.2.1, hA.2.2.2, hK.1, hK.2 35 (by decide), hK.2 36 (by decide), hK.2 37 (by decide), hK.2 38 (by decide)]
  rcases h with h | ⟨k, t', ⟨h1, h2, h3⟩, h4, h5, h6⟩
  · exact Or.inl h
  · exact Or.inr ⟨k, t', ⟨h1, by omega, by omega⟩, h4, h5, h6⟩
theorem TP.k {a a' σ σ' : zSg} {c : Nat} (h34 : a' 34 = a 34) (h35 : a' 35 = a 35) (h6 : σ' 50 6 = σ 50 6) (h53 : σ' 53 = σ 53) (h : TP a σ c) : TP a' σ' c := by
  unfold TP
  rw [h34, h35, h6, h53]
  exact h
theorem CEQ.ka {a b : zSg} (s : CEQ a b) : KA a b := ⟨s.1 _ (by decide) (by decide) (by decide) (by decide) (by decide) (by decide) (by decide), s.1 _ (by decide) (by decide) (by decide) (by decide) (by decide) (by decide) (by decide), s.1 _ (by decide) (by decide) (by decide) (by decide) (by decide) (by decide) (by decide), s.1 _ (by decide) (by decide) (by decide) (by decide) (by decide) (by decide) (by decide)⟩
theorem RQ.ks {a b : zSg} (s : RQ a b) : KS a b := ⟨s.1 59 (by decide) (by decide) (by decide) (by decide), fun k hk => s.2 k (by omega)⟩
theorem INV.q {a a' σ σ' : zSg} {n t m c : Nat} (hA : CEQ a a') (hS : RQ σ σ') (h : INV a σ n t m c) : INV a' σ' n t m c := by
  obtain ⟨h1, h2, h3, ⟨q2, q3, q4, q11⟩, h5, h6, h7, h8⟩ := h
  refine ⟨(h1.ceq hA).rq hS, (h2.ceq hA).rq hS, (hS.2 27 (by omega)).trans h3, ⟨(hA.2 2 (by decide) (by decide)).trans q2, (hA.2 3 (by decide) (by decide)).trans q3, (hA.2 4 (by decide) (by decide)).trans q4, (hA.2 11 (by decide) (by decide)).trans q11⟩, fun s hs => ?_, h6.k (hA.1 _ (by decide) (by decide) (by decide) (by decide) (by decide) (by decide) (by decide)) (hA.1 _ (by decide) (by decide) (by decide) (by decide) (by decide) (by decide) (by decide)) (hS.2 6 (by omega)) (hS.1 53 (by decide) (by decide) (by decide) (by decide)), by rw [hA.2 6 (by decide) (by decide)]; exact h7, h8.k hA.ka hS.ks (Nat.le_refl _) (Nat.le_refl _)⟩
  rw [hA.1 _ (by omega) (by omega) (by omega) (by omega) (by omega) (by omega) (by omega)]
  exact h5 s hs
theorem INV.ck {a σ : zSg} {n t m c : Nat} (h : INV a σ n t m c) : CK a n t := ⟨h.1.1.1, h.2.2.2.1.1, by have := h.1.1.2.2.1; have := h.1.1.2.2.2.1; omega, h.2.2.2.1.2.2.1, (h.1.2.2.2.2 t h.1.1.2.2.1).len, h.2.2.2.1.2.2.2⟩
/-- a call's end, put together -/
theorem INV.of {a a' σ σ' : zSg} {n t m c n' t' m' c' : Nat} (h : INV a σ n t m c) (hR : RE a' σ' n' t' m') (hS : SH a' σ') (hQ : SQR a' n' t' m') (hz : z_sz a') (hT : TP a' σ' c') (hc : ∃ q, q < 8192 ∧ a' 1 6 = nI q) (hA : KA a a') (hK : KS σ σ') (h27 : σ' 50 27 = σ 50 27) (hn : n ≤ n') (hm : m ≤ m') : INV a' σ' n' t' m' c' := ⟨hR, hS, h27.trans h.2.2.1, hQ, hz, hT, hc, h.2.2.2.2.2.2.2.k hA hK hn hm⟩
/-- the end of a call: the class's cells b as a' has them -/
theorem INV.fin {a' σ σ' : zSg} {n t m c : Nat} (h : INV a' σ' n t m c) (hA : CEQ a' σ') : INV σ' σ' n t m c := h.q hA RQ.rf
