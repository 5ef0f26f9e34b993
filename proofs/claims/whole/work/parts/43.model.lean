/-! ShadowTax(), ShadowTaxModel() -/
def lX : Nat → List zSh
  | 0 => lR 6 ++ [(1, 0)] ++ [(10, 160)] ++ [(0, 0)] ++ [(10, 8), (10, 8), (10, 8)] ++ [(23, 4)] ++ [(10, 13)]
  | i + 1 => lX i ++ [(3, 0)] ++ [(10, 40)]
theorem lX_len : ∀ i, (lX i).length = 42 + 2 * i
  | 0 => rfl
  | i + 1 => by show (lX i ++ [_] ++ [_]).length = _; rw [app_len, app_len, lX_len i]; omega
theorem lX_get : ∀ (i j : Nat) (sh : zSh), (lX 0)[j]? = some sh → (lX i)[j]? = some sh
  | 0, _, _, h => h
  | i + 1, j, sh, h => app_lt (app_lt (lX_get i j sh h))
def cX0 (μ : zMem) : zMem := mkA (mkA (z_sR (mkA (mkA (mkA (z_zr (z_sR (mkA (z_zr (z_sR (cSq (z_zr μ 1)) 0 0 (some 1)) 34) 35 34 1) 0 1 (some 34)) 36) 37 36 5) (37 + 1) 36 6) (37 + 2) 36 7) 0 2 (some 36)) 40 0 3) 41 0 4
def cX (μ : zMem) : Nat → zMem
  | 0 => cX0 μ
  | i + 1 => z_sR (z_sI (mkA (z_zr (cX μ i) (42 + 2 * i)) (42 + 2 * i + 1) (42 + 2 * i) 0) (42 + 2 * i) 1 (-1)) 40 i (some (42 + 2 * i))
theorem cX_0 (μ : zMem) : ∀ i, (cX μ i).2.2 0 3 = some 40
  | 0 => rfl
  | i + 1 => by
    show (z_sR (z_sI (mkA (z_zr (cX μ i) (42 + 2 * i)) (42 + 2 * i + 1) (42 + 2 * i) 0) (42 + 2 * i) 1 (-1)) 40 i (some (42 + 2 * i))).2.2 0 3 = _
    rw [sR_o _ _ _ _ _ _ (by decide)]
    show (mkA (z_zr (cX μ i) (42 + 2 * i)) (42 + 2 * i + 1) (42 + 2 * i) 0).2.2 0 3 = _
    unfold mkA
    rw [sR_o _ _ _ _ _ _ (by omega), z_zr_o _ _ _ _ (by omega), z_zr_o _ _ _ _ (by omega), cX_0 μ i]
theorem s_iTax {X : zXs} {d : Nat} {μ : zMem} (hd : 4 ≤ d) : zC X d 49 1800 m_X6_init [.ref 0] [(6, 0)] μ (fun v L2 μ2 => v = none ∧ L2 = lX 4 ∧ μ2 = cX μ 4) := by
  have hX : ∀ (m i : Nat) (k n : Nat), i + m = 4 → 2 * m ≤ k → 43 * m ≤ n → zT X d m_X6_init (fun v L2 μ2 => v = none ∧ L2 = lX 4 ∧ μ2 = cX μ 4) k n 55 [some (.ref 0), some (.int (nI i))] [] (lX i) (cX μ i) := by
    intro m
    induction m with
    | zero =>
      intro i k n hi hk hn
      have hi : i = 4 := by omega
      subst hi
      have z1 : z_fv (cX μ 4) 0 6 3 = .ref 40 := by show z_rv ((cX μ 4).2.2 0 3) = _; rw [cX_0]; rfl
      refine zT.step ct_X6_init_ok ?_
      refine zT.step ct_X6_init_ok ?_
      refine zT.step ct_X6_init_ok ?_
      refine And.intro ⟨by decide, 0, lX_get _ _ _ rfl⟩ ?_
      rw [z1]
      refine zT.step ct_X6_init_ok ?_
      refine z_alen (X := X) (d := d) (Q := fun _ _ _ => True) (lX_get 4 40 (23, 4) rfl) (by decide) ?_
      refine zT.step ct_X6_init_ok ?_
      refine And.intro (fun _ => ?_) (fun h => absurd (by decide) h)
      refine zT.step ct_X6_init_ok ?_
      exact And.intro rfl (And.intro rfl rfl)
    | succ m ih =>
      intro i k n hi hk hn
      have z1 : z_fv (cX μ i) 0 6 3 = .ref 40 := by show z_rv ((cX μ i).2.2 0 3) = _; rw [cX_0]; rfl
      have hlen := lX_len i
      have h16 : 42 + 2 * i < 1000000 := by omega
      refine zT.step ct_X6_init_ok ?_
      refine zT.step ct_X6_init_ok ?_
      refine zT.step ct_X6_init_ok ?_
      refine And.intro ⟨by decide, 0, lX_get _ _ _ rfl⟩ ?_
      rw [z1]
      refine zT.step ct_X6_init_ok ?_
      refine z_alen (X := X) (d := d) (Q := fun _ _ _ => True) (lX_get i 40 (23, 4) rfl) (by decide) ?_
      refine zT.step ct_X6_init_ok ?_
      refine And.intro (fun h => absurd h (nI_ge (show i < 4 by omega) (by decide))) (fun _ => ?_)
      refine zT.step ct_X6_init_ok ?_
      refine zT.step ct_X6_init_ok ?_
      refine And.intro ⟨by decide, 0, lX_get _ _ _ rfl⟩ ?_
      rw [z1]
      refine zT.step ct_X6_init_ok ?_
      refine zT.step ct_X6_init_ok ?_
      refine And.intro ⟨by omega, by omega, by show 3 ≤ n; omega⟩ ?_
      rw [hlen]
      refine zT.step ct_X6_init_ok ?_
      refine zT.step ct_X6_init_ok ?_
      refine And.intro ⟨by omega, h16⟩ (Exists.intro 1 (Exists.intro 40 (Exists.intro _ (And.intro ⟨by omega, by show 40 ≤ n - 3; omega⟩ (And.intro (s_iSheet (w := 0) (N := 42 + 2 * i + 1) (by omega) (by rw [List.getElem?_append_right (by omega), hlen, Nat.sub_self]; rfl) (by rw [app_len, hlen]) (by omega)) (fun w L2 μ2 hw => ?_))))))
      obtain ⟨rfl, rfl, rfl⟩ := hw
      refine zT.step ct_X6_init_ok ?_
      refine Exists.intro i (And.intro ⟨⟨rfl, by decide, 4, app_lt (app_lt (lX_get i 40 (23, 4) rfl)), by omega, by decide⟩, h16, 0, app_lt (by rw [List.getElem?_append_right (by omega), hlen, Nat.sub_self]; rfl)⟩ ?_)
      refine zT.step ct_X6_init_ok ?_
      refine zT.step ct_X6_init_ok ?_
      show zT X d m_X6_init _ (k - 1 - 1) (n - 3 - 40) 55 [some (.ref 0), some (.int (nI i + 1))] [] (lX (i + 1)) (cX μ (i + 1))
      rw [nI_1]
      exact ih (i + 1) _ _ (by omega) (by omega) (by omega)
  refine zC.of mk_X6_init rfl ?_
  refine zT.step ct_X6_init_ok ?_
  refine zT.step ct_X6_init_ok ?_
  refine And.intro (by omega) ?_
  refine zT.step ct_X6_init_ok ?_
  refine zT.step ct_X6_init_ok ?_
  refine And.intro ⟨by decide, by decide, by decide⟩ ?_
  refine zT.step ct_X6_init_ok ?_
  refine zT.step ct_X6_init_ok ?_
  refine And.intro ⟨by omega, by decide⟩ (Exists.intro 32 (Exists.intro 1300 (Exists.intro _ (And.intro ⟨by decide, by decide⟩ (And.intro (s_iSquare (by omega)) (fun w L2 μ2 hw => ?_))))))
  obtain ⟨rfl, rfl, rfl⟩ := hw
  refine zT.step ct_X6_init_ok ?_
  refine And.intro ⟨by decide, 0, rfl⟩ ?_
  refine zT.step ct_X6_init_ok ?_
  refine zT.step ct_X6_init_ok ?_
  refine And.intro ⟨by decide, by decide, by decide⟩ ?_
  refine zT.step ct_X6_init_ok ?_
  refine zT.step ct_X6_init_ok ?_
  refine And.intro ⟨by omega, by decide⟩ (Exists.intro 1 (Exists.intro 160 (Exists.intro _ (And.intro ⟨by decide, by decide⟩ (And.intro (s_iReader (w := 0) (N := 35) (by omega) rfl rfl (by decide)) (fun w L2 μ2 hw => ?_))))))
  obtain ⟨rfl, rfl, rfl⟩ := hw
  refine zT.step ct_X6_init_ok ?_
  refine And.intro ⟨by decide, 0, rfl⟩ ?_
  refine zT.step ct_X6_init_ok ?_
  refine zT.step ct_X6_init_ok ?_
  refine And.intro ⟨by decide, by decide, by decide⟩ ?_
  refine zT.step ct_X6_init_ok ?_
  refine zT.step ct_X6_init_ok ?_
  refine And.intro ⟨by omega, by decide⟩ (Exists.intro 3 (Exists.intro 24 (Exists.intro _ (And.intro ⟨by decide, by decide⟩ (And.intro (s_iImage (w := 0) (N := 37) (by omega) rfl rfl (by decide)) (fun w L2 μ2 hw => ?_))))))
  obtain ⟨rfl, rfl, rfl⟩ := hw
  refine zT.step ct_X6_init_ok ?_
  refine And.intro ⟨by decide, 0, rfl⟩ ?_
  refine zT.step ct_X6_init_ok ?_
  refine zT.step ct_X6_init_ok ?_
  refine zT.step ct_X6_init_ok ?_
  refine And.intro ⟨by decide, by decide, by decide, by decide, by decide⟩ ?_
  refine zT.step ct_X6_init_ok ?_
  refine And.intro ⟨by decide, 0, rfl⟩ ?_
  refine zT.step ct_X6_init_ok ?_
  refine zT.step ct_X6_init_ok ?_
  refine zT.step ct_X6_init_ok ?_
  refine And.intro ⟨by decide, by decide, by decide, by decide, by decide⟩ ?_
  refine zT.step ct_X6_init_ok ?_
  refine And.intro ⟨by decide, 0, rfl⟩ ?_
  refine zT.step ct_X6_init_ok ?_
  refine zT.step ct_X6_init_ok ?_
  exact hX 4 0 _ _ rfl (by decide) (by decide)
/-! the reference -/
def uSp (μ : zMem) (p : Nat) (a b c d e f g h : Int32) : zMem := z_sI (z_sI (z_sI (z_sI (z_sI (z_sI (z_sI (z_sI μ 51 p a) 51 (p + 1) b) 51 (p + 2) c) 51 (p + 3) d) 51 (p + 4) e) 51 (p + 5) f) 51 (p + 6) g) 51 (p + 7) h
theorem uSp_r (μ : zMem) (p : Nat) (a b c d e f g h : Int32) : (uSp μ p a b c d e f g h).2.2 = μ.2.2 := rfl
theorem s_spell {X : zXs} {d p : Nat} {μ : zMem} {a b c d1 e f g h : Int32} (hr : μ.2.2 50 1 = some 51) (hp : p + 8 ≤ 960) : zF X d m_X7_spell [.ref 50, .int (nI p), .int a, .int b, .int c, .int d1, .int e, .int f, .int g, .int h] L0 μ none (uSp μ p a b c d1 e f g h) := by
  have z1 : ∀ ν : zMem, ν.2.2 = μ.2.2 → z_fv ν 50 7 1 = .ref 51 := fun ν hν => by show z_rv (ν.2.2 50 1) = _; rw [hν, hr]; rfl
  refine zF.of mk_X7_spell rfl ?_
  refine zT.step ct_X7_spell_ok ?_
  refine zT.step ct_X7_spell_ok ?_
  refine And.intro ⟨by decide, 0, rfl⟩ ?_
  rw [z1]
  rotate_left
  · rfl
  refine zT.step ct_X7_spell_ok ?_
  refine zT.step ct_X7_spell_ok ?_
  refine zT.step ct_X7_spell_ok ?_
  refine Exists.intro (p) (And.intro ⟨rfl, by decide, 960, rfl, by omega, by decide⟩ ?_)
  refine zT.step ct_X7_spell_ok ?_
  refine zT.step ct_X7_spell_ok ?_
  refine And.intro ⟨by decide, 0, rfl⟩ ?_
  rw [z1]
  rotate_left
  · rfl
  refine zT.step ct_X7_spell_ok ?_
  refine zT.step ct_X7_spell_ok ?_
  refine zT.step ct_X7_spell_ok ?_
  refine zT.step ct_X7_spell_ok ?_
  refine zT.step ct_X7_spell_ok ?_
  refine Exists.intro (p + 1) (And.intro ⟨nI_add p 1, by decide, 960, rfl, by omega, by decide⟩ ?_)
  refine zT.step ct_X7_spell_ok ?_
  refine zT.step ct_X7_spell_ok ?_
  refine And.intro ⟨by decide, 0, rfl⟩ ?_
  rw [z1]
  rotate_left
  · rfl
  refine zT.step ct_X7_spell_ok ?_
  refine zT.step ct_X7_spell_ok ?_
  refine zT.step ct_X7_spell_ok ?_
  refine zT.step ct_X7_spell_ok ?_
  refine zT.step ct_X7_spell_ok ?_
  refine Exists.intro (p + 2) (And.intro ⟨nI_add p 2, by decide, 960, rfl, by omega, by decide⟩ ?_)
  refine zT.step ct_X7_spell_ok ?_
  refine zT.step ct_X7_spell_ok ?_
  refine And.intro ⟨by decide, 0, rfl⟩ ?_
  rw [z1]
  rotate_left
  · rfl
  refine zT.step ct_X7_spell_ok ?_
  refine zT.step ct_X7_spell_ok ?_
  refine zT.step ct_X7_spell_ok ?_
  refine zT.step ct_X7_spell_ok ?_
  refine zT.step ct_X7_spell_ok ?_
  refine Exists.intro (p + 3) (And.intro ⟨nI_add p 3, by decide, 960, rfl, by omega, by decide⟩ ?_)
  refine zT.step ct_X7_spell_ok ?_
  refine zT.step ct_X7_spell_ok ?_
  refine And.intro ⟨by decide, 0, rfl⟩ ?_
  rw [z1]
  rotate_left
  · rfl
  refine zT.step ct_X7_spell_ok ?_
  refine zT.step ct_X7_spell_ok ?_
  refine zT.step ct_X7_spell_ok ?_
  refine zT.step ct_X7_spell_ok ?_
  refine zT.step ct_X7_spell_ok ?_
  refine Exists.intro (p + 4) (And.intro ⟨nI_add p 4, by decide, 960, rfl, by omega, by decide⟩ ?_)
  refine zT.step ct_X7_spell_ok ?_
  refine zT.step ct_X7_spell_ok ?_
  refine And.intro ⟨by decide, 0, rfl⟩ ?_
  rw [z1]
  rotate_left
  · rfl
  refine zT.step ct_X7_spell_ok ?_
  refine zT.step ct_X7_spell_ok ?_
  refine zT.step ct_X7_spell_ok ?_
  refine zT.step ct_X7_spell_ok ?_
  refine zT.step ct_X7_spell_ok ?_
  refine Exists.intro (p + 5) (And.intro ⟨nI_add p 5, by decide, 960, rfl, by omega, by decide⟩ ?_)
  refine zT.step ct_X7_spell_ok ?_
  refine zT.step ct_X7_spell_ok ?_
  refine And.intro ⟨by decide, 0, rfl⟩ ?_
  rw [z1]
  rotate_left
  · rfl
  refine zT.step ct_X7_spell_ok ?_
  refine zT.step ct_X7_spell_ok ?_
  refine zT.step ct_X7_spell_ok ?_
  refine zT.step ct_X7_spell_ok ?_
  refine zT.step ct_X7_spell_ok ?_
  refine Exists.intro (p + 6) (And.intro ⟨nI_add p 6, by decide, 960, rfl, by omega, by decide⟩ ?_)
  refine zT.step ct_X7_spell_ok ?_
  refine zT.step ct_X7_spell_ok ?_
  refine And.intro ⟨by decide, 0, rfl⟩ ?_
  rw [z1]
  rotate_left
  · rfl
  refine zT.step ct_X7_spell_ok ?_
  refine zT.step ct_X7_spell_ok ?_
  refine zT.step ct_X7_spell_ok ?_
  refine zT.step ct_X7_spell_ok ?_
  refine zT.step ct_X7_spell_ok ?_
  refine Exists.intro (p + 7) (And.intro ⟨nI_add p 7, by decide, 960, rfl, by omega, by decide⟩ ?_)
  refine zT.step ct_X7_spell_ok ?_
  exact And.intro rfl (And.intro rfl rfl)
def cM0 (μ : zMem) : zMem := mkA (mkA (mkA (mkA (z_sI (mkA (mkA (mkA (mkA (z_sI (mkA (mkA (mkA (mkA (mkA (μ) 51 50 1) 52 50 2) 53 50 5) 54 50 9) 55 50 10) 50 27 (-1)) 56 50 28) 57 50 29) 58 50 30) 59 50 34) 50 35 (-1)) 60 50 39) 61 50 40) 62 50 41) 63 50 42
def cM (μ : zMem) : zMem := z_sI (z_sI (uSp (uSp (uSp (uSp (cM0 μ) 0 115 108 97 110 116 115 32 52) 8 32 59 32 100 117 101 115 32) 16 50 32 59 32 115 101 116 115) 24 32 48 32 59 32 32 32 32) 52 0 32) 50 3 1
theorem s_iModel {X : zXs} {d : Nat} {μ : zMem} (hd : 2 ≤ d) : zC X d 13 2000 m_X7_init [.ref 50] (lX 4 ++ [(7, 0)]) μ (fun v L2 μ2 => v = none ∧ L2 = L0 ∧ μ2 = cM μ) := by
  refine zC.of mk_X7_init rfl ?_
  refine zT.step ct_X7_init_ok ?_
  refine zT.step ct_X7_init_ok ?_
  refine And.intro (by omega) ?_
  refine zT.step ct_X7_init_ok ?_
  refine zT.step ct_X7_init_ok ?_
  refine zT.step ct_X7_init_ok ?_
  refine And.intro ⟨by decide, by decide, by decide, by decide, by decide⟩ ?_
  refine zT.step ct_X7_init_ok ?_
  refine And.intro ⟨by decide, 0, rfl⟩ ?_
  refine zT.step ct_X7_init_ok ?_
  refine zT.step ct_X7_init_ok ?_
  refine zT.step ct_X7_init_ok ?_
  refine And.intro ⟨by decide, by decide, by decide, by decide, by decide⟩ ?_
  refine zT.step ct_X7_init_ok ?_
  refine And.intro ⟨by decide, 0, rfl⟩ ?_
  refine zT.step ct_X7_init_ok ?_
  refine zT.step ct_X7_init_ok ?_
  refine zT.step ct_X7_init_ok ?_
  refine And.intro ⟨by decide, by decide, by decide, by decide, by decide⟩ ?_
  refine zT.step ct_X7_init_ok ?_
  refine And.intro ⟨by decide, 0, rfl⟩ ?_
  refine zT.step ct_X7_init_ok ?_
  refine zT.step ct_X7_init_ok ?_
  refine zT.step ct_X7_init_ok ?_
  refine And.intro ⟨by decide, by decide, by decide, by decide, by decide⟩ ?_
  refine zT.step ct_X7_init_ok ?_
  refine And.intro ⟨by decide, 0, rfl⟩ ?_
  refine zT.step ct_X7_init_ok ?_
  refine zT.step ct_X7_init_ok ?_
  refine zT.step ct_X7_init_ok ?_
  refine And.intro ⟨by decide, by decide, by decide, by decide, by decide⟩ ?_
  refine zT.step ct_X7_init_ok ?_
  refine And.intro ⟨by decide, 0, rfl⟩ ?_
  refine zT.step ct_X7_init_ok ?_
  refine zT.step ct_X7_init_ok ?_
  refine zT.step ct_X7_init_ok ?_
  refine And.intro ⟨by decide, 0, rfl⟩ ?_
  refine zT.step ct_X7_init_ok ?_
  refine zT.step ct_X7_init_ok ?_
  refine zT.step ct_X7_init_ok ?_
  refine And.intro ⟨by decide, by decide, by decide, by decide, by decide⟩ ?_
  refine zT.step ct_X7_init_ok ?_
  refine And.intro ⟨by decide, 0, rfl⟩ ?_
  refine zT.step ct_X7_init_ok ?_
  refine zT.step ct_X7_init_ok ?_
  refine zT.step ct_X7_init_ok ?_
  refine And.intro ⟨by decide, by decide, by decide, by decide, by decide⟩ ?_
  refine zT.step ct_X7_init_ok ?_
  refine And.intro ⟨by decide, 0, rfl⟩ ?_
  refine zT.step ct_X7_init_ok ?_
  refine zT.step ct_X7_init_ok ?_
  refine zT.step ct_X7_init_ok ?_
  refine And.intro ⟨by decide, by decide, by decide, by decide, by decide⟩ ?_
  refine zT.step ct_X7_init_ok ?_
  refine And.intro ⟨by decide, 0, rfl⟩ ?_
  refine zT.step ct_X7_init_ok ?_
  refine zT.step ct_X7_init_ok ?_
  refine zT.step ct_X7_init_ok ?_
  refine And.intro ⟨by decide, by decide, by decide, by decide, by decide⟩ ?_
  refine zT.step ct_X7_init_ok ?_
  refine And.intro ⟨by decide, 0, rfl⟩ ?_
  refine zT.step ct_X7_init_ok ?_
  refine zT.step ct_X7_init_ok ?_
  refine zT.step ct_X7_init_ok ?_
  refine And.intro ⟨by decide, 0, rfl⟩ ?_
  refine zT.step ct_X7_init_ok ?_
  refine zT.step ct_X7_init_ok ?_
  refine zT.step ct_X7_init_ok ?_
  refine And.intro ⟨by decide, by decide, by decide, by decide, by decide⟩ ?_
  refine zT.step ct_X7_init_ok ?_
  refine And.intro ⟨by decide, 0, rfl⟩ ?_
  refine zT.step ct_X7_init_ok ?_
  refine zT.step ct_X7_init_ok ?_
  refine zT.step ct_X7_init_ok ?_
  refine And.intro ⟨by decide, by decide, by decide, by decide, by decide⟩ ?_
  refine zT.step ct_X7_init_ok ?_
  refine And.intro ⟨by decide, 0, rfl⟩ ?_
  refine zT.step ct_X7_init_ok ?_
  refine zT.step ct_X7_init_ok ?_
  refine zT.step ct_X7_init_ok ?_
  refine And.intro ⟨by decide, by decide, by decide, by decide, by decide⟩ ?_
  refine zT.step ct_X7_init_ok ?_
  refine And.intro ⟨by decide, 0, rfl⟩ ?_
  refine zT.step ct_X7_init_ok ?_
  refine zT.step ct_X7_init_ok ?_
  refine zT.step ct_X7_init_ok ?_
  refine And.intro ⟨by decide, by decide, by decide, by decide, by decide⟩ ?_
  refine zT.step ct_X7_init_ok ?_
  refine And.intro ⟨by decide, 0, rfl⟩ ?_
  show zT X d m_X7_init _ 0 _ 118 _ _ L0 (cM0 μ)
  have hr0 : (cM0 μ).2.2 50 1 = some 51 := rfl
  have hr2 : (cM0 μ).2.2 50 2 = some 52 := rfl
  unfold cM
  generalize cM0 μ = μ0 at hr0 hr2 ⊢
  refine zT.step ct_X7_init_ok ?_
  refine zT.step ct_X7_init_ok ?_
  refine zT.step ct_X7_init_ok ?_
  refine zT.step ct_X7_init_ok ?_
  refine zT.step ct_X7_init_ok ?_
  refine zT.step ct_X7_init_ok ?_
  refine zT.step ct_X7_init_ok ?_
  refine zT.step ct_X7_init_ok ?_
  refine zT.step ct_X7_init_ok ?_
  refine zT.step ct_X7_init_ok ?_
  refine zT.step ct_X7_init_ok ?_
  refine And.intro ⟨by omega, by decide, 0, rfl⟩ (zF.use (s_spell (p := 0) hr0 (by decide)) ?_)
  refine zT.step ct_X7_init_ok ?_
  refine zT.step ct_X7_init_ok ?_
  refine zT.step ct_X7_init_ok ?_
  refine zT.step ct_X7_init_ok ?_
  refine zT.step ct_X7_init_ok ?_
  refine zT.step ct_X7_init_ok ?_
  refine zT.step ct_X7_init_ok ?_
  refine zT.step ct_X7_init_ok ?_
  refine zT.step ct_X7_init_ok ?_
  refine zT.step ct_X7_init_ok ?_
  refine zT.step ct_X7_init_ok ?_
  refine And.intro ⟨by omega, by decide, 0, rfl⟩ (zF.use (s_spell (p := 8) hr0 (by decide)) ?_)
  refine zT.step ct_X7_init_ok ?_
  refine zT.step ct_X7_init_ok ?_
  refine zT.step ct_X7_init_ok ?_
  refine zT.step ct_X7_init_ok ?_
  refine zT.step ct_X7_init_ok ?_
  refine zT.step ct_X7_init_ok ?_
  refine zT.step ct_X7_init_ok ?_
  refine zT.step ct_X7_init_ok ?_
  refine zT.step ct_X7_init_ok ?_
  refine zT.step ct_X7_init_ok ?_
  refine zT.step ct_X7_init_ok ?_
  refine And.intro ⟨by omega, by decide, 0, rfl⟩ (zF.use (s_spell (p := 16) hr0 (by decide)) ?_)
  refine zT.step ct_X7_init_ok ?_
  refine zT.step ct_X7_init_ok ?_
  refine zT.step ct_X7_init_ok ?_
  refine zT.step ct_X7_init_ok ?_
  refine zT.step ct_X7_init_ok ?_
  refine zT.step ct_X7_init_ok ?_
  refine zT.step ct_X7_init_ok ?_
  refine zT.step ct_X7_init_ok ?_
  refine zT.step ct_X7_init_ok ?_
  refine zT.step ct_X7_init_ok ?_
  refine zT.step ct_X7_init_ok ?_
  refine And.intro ⟨by omega, by decide, 0, rfl⟩ (zF.use (s_spell (p := 24) hr0 (by decide)) ?_)
  refine zT.step ct_X7_init_ok ?_
  refine zT.step ct_X7_init_ok ?_
  refine And.intro ⟨by decide, 0, rfl⟩ ?_
  have z2 : ∀ ν : zMem, ν.2.2 = μ0.2.2 → z_fv ν 50 7 2 = .ref 52 := fun ν hν => by show z_rv (ν.2.2 50 2) = _; rw [hν, hr2]; rfl
  rw [z2]
  rotate_left
  · rw [uSp_r, uSp_r, uSp_r, uSp_r]
  refine zT.step ct_X7_init_ok ?_
  refine zT.step ct_X7_init_ok ?_
  refine zT.step ct_X7_init_ok ?_
  refine Exists.intro 0 (And.intro ⟨rfl, by decide, 6, rfl, by decide, by decide⟩ ?_)
  refine zT.step ct_X7_init_ok ?_
  refine zT.step ct_X7_init_ok ?_
  refine zT.step ct_X7_init_ok ?_
  refine And.intro ⟨by decide, 0, rfl⟩ ?_
  refine zT.step ct_X7_init_ok ?_
  exact And.intro rfl (And.intro rfl rfl)
/-! the first memory -/
def mu0 : zMem := (fun _ _ => 0, fun _ _ => 0, fun _ _ => none)
def muF : zMem := cM (z_zr (cX (z_zr mu0 0) 4) 50)
def z_chk (μ μ' : zMem) : Bool := (List.range 64).all (fun a => (List.range 50).all (fun k => !z_rl (L0.getD a (0, 0)) k || decide (μ'.2.2 a k = μ.2.2 a k)))
theorem muF_chk : z_chk muF (mm muF.1 muF.2.1 none) = true := by decide +kernel
