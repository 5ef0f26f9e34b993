/-! the reference's taken, force, image, back, feed, count -/
def rO (k : Int32) : Int32 := if k = 0 then -1 else if k = 3 then 1 else if k = 4 then 2 else 0
theorem t_over {X : zXs} {d : Nat} {L : List zSh} {μ : zMem} {k : Int32} : zF X d m_X7_over [.int k] L μ (some (.int (rO k))) μ := by
  unfold rO
  refine zF.of mk_X7_over rfl ?_
  refine zT.step ct_X7_over_ok ?_
  refine zT.step ct_X7_over_ok ?_
  refine And.intro (fun q => ?_) (fun q => ?_)
  · have q : k = 0 := q
    rw [if_pos q]
    refine zT.step ct_X7_over_ok ?_
    refine zT.step ct_X7_over_ok ?_
    refine zT.step ct_X7_over_ok ?_
    exact And.intro rfl (And.intro rfl rfl)
  have q : ¬ k = 0 := q
  rw [if_neg q]
  refine zT.step ct_X7_over_ok ?_
  refine zT.step ct_X7_over_ok ?_
  refine zT.step ct_X7_over_ok ?_
  refine And.intro (fun q => ?_) (fun q => ?_)
  · have q : k = 3 := q
    rw [if_pos q]
    refine zT.step ct_X7_over_ok ?_
    refine zT.step ct_X7_over_ok ?_
    refine zT.step ct_X7_over_ok ?_
    exact And.intro rfl (And.intro rfl rfl)
  have q : ¬ k = 3 := q
  rw [if_neg q]
  refine zT.step ct_X7_over_ok ?_
  refine zT.step ct_X7_over_ok ?_
  refine zT.step ct_X7_over_ok ?_
  refine And.intro (fun q => ?_) (fun q => ?_)
  · have q : k = 4 := q
    rw [if_pos q]
    refine zT.step ct_X7_over_ok ?_
    refine zT.step ct_X7_over_ok ?_
    refine zT.step ct_X7_over_ok ?_
    exact And.intro rfl (And.intro rfl rfl)
  have q : ¬ k = 4 := q
  rw [if_neg q]
  refine zT.step ct_X7_over_ok ?_
  refine zT.step ct_X7_over_ok ?_
  exact And.intro rfl (And.intro rfl rfl)
def f7 (y : Int32) : Nat → Int32 → Option Int32
  | 0, _ => none
  | m + 1, k => if k = -1 then some k else if k = y then some k else f7 y m (rO k)
theorem f7_un : ∀ y, y < 6 → ∀ k, k < 6 → f7 (nI y) 8 (nI k) = some (bif f_un (nI y) 6 (nI k) then nI y else -1) := by decide +kernel
theorem t_taken {X : zXs} {d n t m : Nat} {a σ : zSg} {τ : Nat → Nat → Int64} {r : Option Nat} {x y : Int32} (hd : 2 ≤ d) (hE : RE a σ n t m) : zF X d m_X7_taken [.ref 50, .int x, .int y] L0 (mm σ τ r) (some (.int (v_taken a n x y))) (mm σ τ r) := by
  have h8 := hE.1.1
  refine zF.of mk_X7_taken rfl ?_
  refine zT.step ct_X7_taken_ok ?_
  refine zT.step ct_X7_taken_ok ?_
  refine zT.step ct_X7_taken_ok ?_
  refine zT.step ct_X7_taken_ok ?_
  refine zT.step ct_X7_taken_ok ?_
  refine And.intro (by omega) (zF.use (t_inR (m := 5) (by decide) rfl) ?_)
  refine zT.step ct_X7_taken_ok ?_
  refine And.intro (fun q => ?_) (fun q => ?_)
  · have q := fb0 q
    refine zT.step ct_X7_taken_ok ?_
    refine zT.step ct_X7_taken_ok ?_
    exact And.intro (by unfold v_taken; rw [q]; rfl) (And.intro rfl rfl)
  have hy := fb1 q
  refine zT.step ct_X7_taken_ok ?_
  refine zT.step ct_X7_taken_ok ?_
  refine zT.step ct_X7_taken_ok ?_
  refine And.intro ⟨by omega, by decide, _, rfl⟩ (zF.use (t_isThing (by omega) hE.1.2.1 h8) ?_)
  refine zT.step ct_X7_taken_ok ?_
  refine And.intro (fun q => ?_) (fun q => ?_)
  · have q := fb0 q
    refine zT.step ct_X7_taken_ok ?_
    refine zT.step ct_X7_taken_ok ?_
    exact And.intro (by unfold v_taken; rw [hy, q]; rfl) (And.intro rfl rfl)
  have hx := fb1 q
  obtain ⟨yn, hyn, rfl⟩ := rg_t (by omega) hy
  obtain ⟨i, hi, rfl⟩ := rg_t (by omega) hx
  obtain ⟨k0, r0, r1, r2⟩ := hE.2.2.1 i hi
  obtain ⟨kn, hkn, ek⟩ := (hE.2.2.2.1 i hi).1
  have hv : v_taken a n (nI i) (nI yn) = (bif f_un (nI yn) 6 (nI kn) then a (8 + i) 1 else -13) := by
    unfold v_taken
    rw [hy, hx, nI_clamp (by omega), ek]
    rfl
  rw [hv]
  have lp : ∀ (m' : Nat) (k : Int32), f7 (nI yn) m' k = some (bif f_un (nI yn) 6 (nI kn) then nI yn else -1) → zT X d m_X7_taken (fun w L2 μ2 => w = some (.int (bif f_un (nI yn) 6 (nI kn) then a (8 + i) 1 else -13)) ∧ L2 = L0 ∧ μ2 = mm σ τ r) 0 0 33 [some (.ref 50), some (.int (nI i)), some (.int (nI yn)), some (.int k)] [] L0 (mm σ τ r) := by
    intro m'
    induction m' with
    | zero => intro k h; exact absurd h (by intro z; cases z)
    | succ m' ih =>
      intro k h
      have fin : k = (bif f_un (nI yn) 6 (nI kn) then nI yn else -1) → zT X d m_X7_taken (fun w L2 μ2 => w = some (.int (bif f_un (nI yn) 6 (nI kn) then a (8 + i) 1 else -13)) ∧ L2 = L0 ∧ μ2 = mm σ τ r) 0 0 51 [some (.ref 50), some (.int (nI i)), some (.int (nI yn)), some (.int k)] [] L0 (mm σ τ r) := by
        intro e
        cases hu : f_un (nI yn) 6 (nI kn) with
        | true =>
          rw [hu] at e
          have e : k = nI yn := e
          refine zT.step ct_X7_taken_ok ?_
          refine zT.step ct_X7_taken_ok ?_
          refine zT.step ct_X7_taken_ok ?_
          refine And.intro (fun _ => ?_) (fun q => absurd e q)
          refine zT.step ct_X7_taken_ok ?_
          refine zT.step ct_X7_taken_ok ?_
          refine And.intro ⟨by decide, _, rfl⟩ ?_
          refine zT.step ct_X7_taken_ok ?_
          refine zT.step ct_X7_taken_ok ?_
          refine zT.step ct_X7_taken_ok ?_
          refine zT.step ct_X7_taken_ok ?_
          refine Exists.intro (3 * i) (And.intro ⟨?_, by decide, 24, rfl, by omega, by decide⟩ ?_)
          · show nI 3 * nI i = _
            rw [nI_mulN]
          refine zT.step ct_X7_taken_ok ?_
          refine zT.step ct_X7_taken_ok ?_
          exact And.intro (congrArg (fun v => some (Value.int v)) r0) (And.intro rfl rfl)
        | false =>
          rw [hu] at e
          have e : k = -1 := e
          refine zT.step ct_X7_taken_ok ?_
          refine zT.step ct_X7_taken_ok ?_
          refine zT.step ct_X7_taken_ok ?_
          refine And.intro (fun q => ?_) (fun _ => ?_)
          · have q : k = nI yn := q
            rw [e] at q
            have := nI_pos' (n := yn) (by omega)
            rw [← q] at this
            exact absurd this (by decide)
          refine zT.step ct_X7_taken_ok ?_
          refine zT.step ct_X7_taken_ok ?_
          exact And.intro rfl (And.intro rfl rfl)
      have h : (if k = -1 then some k else if k = nI yn then some k else f7 (nI yn) m' (rO k)) = some (bif f_un (nI yn) 6 (nI kn) then nI yn else -1) := h
      refine zT.step ct_X7_taken_ok ?_
      refine zT.step ct_X7_taken_ok ?_
      refine zT.step ct_X7_taken_ok ?_
      refine And.intro (fun q => ?_) (fun q => ?_)
      · have q : k = -1 := q
        rw [if_pos q] at h
        exact fin (Option.some.inj h)
      have q : ¬ k = -1 := q
      rw [if_neg q] at h
      refine zT.step ct_X7_taken_ok ?_
      refine zT.step ct_X7_taken_ok ?_
      refine zT.step ct_X7_taken_ok ?_
      refine And.intro (fun q => ?_) (fun q => ?_)
      · have q : k = nI yn := q
        rw [if_pos q] at h
        exact fin (Option.some.inj h)
      have q : ¬ k = nI yn := q
      rw [if_neg q] at h
      refine zT.step ct_X7_taken_ok ?_
      refine zT.step ct_X7_taken_ok ?_
      refine And.intro (by omega) (zF.use t_over ?_)
      refine zT.step ct_X7_taken_ok ?_
      refine zT.step ct_X7_taken_ok ?_
      exact ih (rO k) h
  refine zT.step ct_X7_taken_ok ?_
  refine zT.step ct_X7_taken_ok ?_
  refine And.intro ⟨by decide, _, rfl⟩ ?_
  refine zT.step ct_X7_taken_ok ?_
  refine zT.step ct_X7_taken_ok ?_
  refine Exists.intro i (And.intro ⟨rfl, by decide, 8, rfl, by omega, by decide⟩ ?_)
  refine zT.step ct_X7_taken_ok ?_
  show zT X d m_X7_taken _ 0 0 33 [some (.ref 50), some (.int (nI i)), some (.int (nI yn)), some (.int (σ 54 i))] [] _ _
  rw [k0, ek]
  exact lp 8 _ (f7_un yn hyn kn hkn)
def w_force (σ : zSg) (m : Nat) (x : Int32) : zSg := bif rg x m then z_up σ 50 4 x else σ
theorem t_force {X : zXs} {d m : Nat} {a σ : zSg} {τ : Nat → Nat → Int64} {r : Option Nat} {x : Int32} (hd : 1 ≤ d) (hm6 : m ≤ 6) (hm : σ 50 3 = nI m) (h4 : σ 50 4 = a 1 4) : zF X d m_X7_force [.ref 50, .int x] L0 (mm σ τ r) (some (.int (v_force a m x))) (mm (w_force σ m x) τ r) := by
  have f1 := t_inI (X := X) (d := d - 1) (L := L0) (μ := mm σ τ r) (x := x) (lo := 0) (hi := (nI m - 1).toInt64) (a := 0) (b := nI m - 1) rfl (Int32.toInt_toInt64 _)
  rw [rg_lem (by omega)] at f1
  unfold v_force w_force
  refine zF.of mk_X7_force rfl ?_
  refine zT.step ct_X7_force_ok ?_
  refine zT.step ct_X7_force_ok ?_
  refine zT.step ct_X7_force_ok ?_
  refine zT.step ct_X7_force_ok ?_
  refine zT.step ct_X7_force_ok ?_
  refine And.intro ⟨by decide, _, rfl⟩ ?_
  refine zT.step ct_X7_force_ok ?_
  refine zT.step ct_X7_force_ok ?_
  refine zT.step ct_X7_force_ok ?_
  show zT X d m_X7_force _ 0 0 10 _ [.long (σ 50 3 - 1).toInt64, .long 0, .long x.toInt64] _ _
  rw [hm]
  refine zT.step ct_X7_force_ok ?_
  refine And.intro hd (zF.use f1 ?_)
  refine zT.step ct_X7_force_ok ?_
  refine And.intro (fun q => ?_) (fun q => ?_)
  · rw [fb0 q]
    refine zT.step ct_X7_force_ok ?_
    refine zT.step ct_X7_force_ok ?_
    exact And.intro rfl (And.intro rfl rfl)
  · rw [fb1 q]
    refine zT.step ct_X7_force_ok ?_
    refine zT.step ct_X7_force_ok ?_
    refine And.intro ⟨by decide, _, rfl⟩ ?_
    refine zT.step ct_X7_force_ok ?_
    refine zT.step ct_X7_force_ok ?_
    refine zT.step ct_X7_force_ok ?_
    refine zT.step ct_X7_force_ok ?_
    refine And.intro ⟨by decide, _, rfl⟩ ?_
    refine zT.step ct_X7_force_ok ?_
    refine zT.step ct_X7_force_ok ?_
    exact And.intro (congrArg (fun v => some (Value.int v)) h4) (And.intro rfl rfl)
theorem zu_row {σ : zSg} {c h : Nat} {g : Nat → Int32} {v : Int32} : z_up (z_row σ c g) c h v = z_row σ c (upd g h v) := by
  funext x y
  by_cases q : x = c
  · subst q
    rw [zu_s, z_row_s, z_row_s]
  · rw [zu_n _ _ _ _ _ q, z_row_n _ _ _ _ q, z_row_n _ _ _ _ q]
def w_im (σ : zSg) : zSg := z_up (z_up (z_up (z_up (z_row σ 59 (f_film (σ 55) (σ 59) 24)) 50 35 (σ 50 11)) 50 36 (σ 50 7)) 50 37 (σ 50 8)) 50 38 (σ 50 4)
theorem t_image {X : zXs} {d : Nat} {σ : zSg} {τ : Nat → Nat → Int64} {r : Option Nat} : zF X d m_X7_image [.ref 50] L0 (mm σ τ r) (some (.int (σ 50 11))) (mm (w_im σ) τ r) := by
  have lp : ∀ (m' i : Nat), i + m' = 24 → zT X d m_X7_image (fun w L2 μ2 => w = some (.int (σ 50 11)) ∧ L2 = L0 ∧ μ2 = mm (w_im σ) τ r) 0 0 2 [some (.ref 50), some (.int (nI i))] [] L0 (mm (z_row σ 59 (f_film (σ 55) (σ 59) i)) τ r) := by
    intro m'
    induction m' with
    | zero =>
      intro i hi
      have hi : i = 24 := by omega
      subst hi
      refine zT.step ct_X7_image_ok ?_
      refine zT.step ct_X7_image_ok ?_
      refine zT.step ct_X7_image_ok ?_
      refine And.intro (fun _ => ?_) (fun q => absurd (by decide) q)
      refine zT.step ct_X7_image_ok ?_
      refine zT.step ct_X7_image_ok ?_
      refine zT.step ct_X7_image_ok ?_
      refine And.intro ⟨by decide, _, rfl⟩ ?_
      refine zT.step ct_X7_image_ok ?_
      refine And.intro ⟨by decide, _, rfl⟩ ?_
      refine zT.step ct_X7_image_ok ?_
      refine zT.step ct_X7_image_ok ?_
      refine zT.step ct_X7_image_ok ?_
      refine And.intro ⟨by decide, _, rfl⟩ ?_
      refine zT.step ct_X7_image_ok ?_
      refine And.intro ⟨by decide, _, rfl⟩ ?_
      refine zT.step ct_X7_image_ok ?_
      refine zT.step ct_X7_image_ok ?_
      refine zT.step ct_X7_image_ok ?_
      refine And.intro ⟨by decide, _, rfl⟩ ?_
      refine zT.step ct_X7_image_ok ?_
      refine And.intro ⟨by decide, _, rfl⟩ ?_
      refine zT.step ct_X7_image_ok ?_
      refine zT.step ct_X7_image_ok ?_
      refine zT.step ct_X7_image_ok ?_
      refine And.intro ⟨by decide, _, rfl⟩ ?_
      refine zT.step ct_X7_image_ok ?_
      refine And.intro ⟨by decide, _, rfl⟩ ?_
      refine zT.step ct_X7_image_ok ?_
      refine zT.step ct_X7_image_ok ?_
      refine And.intro ⟨by decide, _, rfl⟩ ?_
      refine zT.step ct_X7_image_ok ?_
      exact And.intro rfl (And.intro rfl rfl)
    | succ m' ih =>
      intro i hi
      have nx := ih (i + 1) (by omega)
      refine zT.step ct_X7_image_ok ?_
      refine zT.step ct_X7_image_ok ?_
      refine zT.step ct_X7_image_ok ?_
      refine And.intro (fun q => absurd q (nI_ge (show i < 24 by omega) (by decide))) (fun _ => ?_)
      refine zT.step ct_X7_image_ok ?_
      refine zT.step ct_X7_image_ok ?_
      refine And.intro ⟨by decide, _, rfl⟩ ?_
      refine zT.step ct_X7_image_ok ?_
      refine zT.step ct_X7_image_ok ?_
      refine zT.step ct_X7_image_ok ?_
      refine And.intro ⟨by decide, _, rfl⟩ ?_
      refine zT.step ct_X7_image_ok ?_
      refine zT.step ct_X7_image_ok ?_
      refine Exists.intro i (And.intro ⟨rfl, by decide, 24, rfl, by omega, by decide⟩ ?_)
      refine zT.step ct_X7_image_ok ?_
      refine Exists.intro i (And.intro ⟨rfl, by decide, 24, rfl, by omega, by decide⟩ ?_)
      refine zT.step ct_X7_image_ok ?_
      refine zT.step ct_X7_image_ok ?_
      rw [nI_1]
      show zT X d m_X7_image _ 0 0 2 _ [] L0 (mm (z_up (z_row σ 59 (f_film (σ 55) (σ 59) i)) 59 i (z_row σ 59 (f_film (σ 55) (σ 59) i) 55 i)) τ r)
      rw [zu_row, z_row_n _ _ _ _ (show (55 : Nat) ≠ 59 by decide), f_film_s (σ 55)]
      exact nx
  refine zF.of mk_X7_image rfl ?_
  have e0 : z_row σ 59 (f_film (σ 55) (σ 59) 0) = σ := by
    have : f_film (σ 55) (σ 59) 0 = σ 59 := by funext j; exact if_neg (by omega)
    rw [this, z_row_id]
  have l0 := lp 24 0 rfl
  rw [e0] at l0
  refine zT.step ct_X7_image_ok ?_
  refine zT.step ct_X7_image_ok ?_
  exact l0
def w_bk (σ : zSg) : zSg := z_up (z_up (z_up (z_up (z_row σ 55 (f_film (σ 59) (σ 55) 24)) 50 11 (σ 50 35)) 50 7 (σ 50 36)) 50 8 (σ 50 37)) 50 4 (σ 50 38)
theorem t_back {X : zXs} {d : Nat} {σ : zSg} {τ : Nat → Nat → Int64} {r : Option Nat} : zF X d m_X7_back [.ref 50] L0 (mm σ τ r) (some (.int (if σ 50 35 = -1 then -3 else σ 50 35))) (mm (if σ 50 35 = -1 then σ else w_bk σ) τ r) := by
  have lp : ¬ σ 50 35 = -1 → ∀ (m' i : Nat), i + m' = 24 → zT X d m_X7_back (fun w L2 μ2 => w = some (.int (σ 50 35)) ∧ L2 = L0 ∧ μ2 = mm (w_bk σ) τ r) 0 0 13 [some (.ref 50), some (.int (nI i))] [] L0 (mm (z_row σ 55 (f_film (σ 59) (σ 55) i)) τ r) := by
    intro hn m'
    induction m' with
    | zero =>
      intro i hi
      have hi : i = 24 := by omega
      subst hi
      refine zT.step ct_X7_back_ok ?_
      refine zT.step ct_X7_back_ok ?_
      refine zT.step ct_X7_back_ok ?_
      refine And.intro (fun _ => ?_) (fun q => absurd (by decide) q)
      refine zT.step ct_X7_back_ok ?_
      refine zT.step ct_X7_back_ok ?_
      refine zT.step ct_X7_back_ok ?_
      refine And.intro ⟨by decide, _, rfl⟩ ?_
      refine zT.step ct_X7_back_ok ?_
      refine And.intro ⟨by decide, _, rfl⟩ ?_
      refine zT.step ct_X7_back_ok ?_
      refine zT.step ct_X7_back_ok ?_
      refine zT.step ct_X7_back_ok ?_
      refine And.intro ⟨by decide, _, rfl⟩ ?_
      refine zT.step ct_X7_back_ok ?_
      refine And.intro ⟨by decide, _, rfl⟩ ?_
      refine zT.step ct_X7_back_ok ?_
      refine zT.step ct_X7_back_ok ?_
      refine zT.step ct_X7_back_ok ?_
      refine And.intro ⟨by decide, _, rfl⟩ ?_
      refine zT.step ct_X7_back_ok ?_
      refine And.intro ⟨by decide, _, rfl⟩ ?_
      refine zT.step ct_X7_back_ok ?_
      refine zT.step ct_X7_back_ok ?_
      refine zT.step ct_X7_back_ok ?_
      refine And.intro ⟨by decide, _, rfl⟩ ?_
      refine zT.step ct_X7_back_ok ?_
      refine And.intro ⟨by decide, _, rfl⟩ ?_
      refine zT.step ct_X7_back_ok ?_
      refine zT.step ct_X7_back_ok ?_
      refine And.intro ⟨by decide, _, rfl⟩ ?_
      refine zT.step ct_X7_back_ok ?_
      exact And.intro rfl (And.intro rfl rfl)
    | succ m' ih =>
      intro i hi
      have nx := ih (i + 1) (by omega)
      refine zT.step ct_X7_back_ok ?_
      refine zT.step ct_X7_back_ok ?_
      refine zT.step ct_X7_back_ok ?_
      refine And.intro (fun q => absurd q (nI_ge (show i < 24 by omega) (by decide))) (fun _ => ?_)
      refine zT.step ct_X7_back_ok ?_
      refine zT.step ct_X7_back_ok ?_
      refine And.intro ⟨by decide, _, rfl⟩ ?_
      refine zT.step ct_X7_back_ok ?_
      refine zT.step ct_X7_back_ok ?_
      refine zT.step ct_X7_back_ok ?_
      refine And.intro ⟨by decide, _, rfl⟩ ?_
      refine zT.step ct_X7_back_ok ?_
      refine zT.step ct_X7_back_ok ?_
      refine Exists.intro i (And.intro ⟨rfl, by decide, 24, rfl, by omega, by decide⟩ ?_)
      refine zT.step ct_X7_back_ok ?_
      refine Exists.intro i (And.intro ⟨rfl, by decide, 24, rfl, by omega, by decide⟩ ?_)
      refine zT.step ct_X7_back_ok ?_
      refine zT.step ct_X7_back_ok ?_
      rw [nI_1]
      show zT X d m_X7_back _ 0 0 13 _ [] L0 (mm (z_up (z_row σ 55 (f_film (σ 59) (σ 55) i)) 55 i (z_row σ 55 (f_film (σ 59) (σ 55) i) 59 i)) τ r)
      rw [zu_row, z_row_n _ _ _ _ (show (59 : Nat) ≠ 55 by decide), f_film_s (σ 59)]
      exact nx
  refine zF.of mk_X7_back rfl ?_
  refine zT.step ct_X7_back_ok ?_
  refine zT.step ct_X7_back_ok ?_
  refine And.intro ⟨by decide, _, rfl⟩ ?_
  refine zT.step ct_X7_back_ok ?_
  refine zT.step ct_X7_back_ok ?_
  refine And.intro (fun q => ?_) (fun q => ?_)
  · have q : σ 50 35 = -1 := q
    rw [if_pos q, if_pos q]
    refine zT.step ct_X7_back_ok ?_
    refine zT.step ct_X7_back_ok ?_
    exact And.intro rfl (And.intro rfl rfl)
  · have q : ¬ σ 50 35 = -1 := q
    rw [if_neg q, if_neg q]
    have e0 : z_row σ 55 (f_film (σ 59) (σ 55) 0) = σ := by
      have : f_film (σ 59) (σ 55) 0 = σ 55 := by funext j; exact if_neg (by omega)
      rw [this, z_row_id]
    have l0 := lp q 24 0 rfl
    rw [e0] at l0
    refine zT.step ct_X7_back_ok ?_
    refine zT.step ct_X7_back_ok ?_
    exact l0
def w_feed (σ : zSg) (c : Nat) (x : Int32) : zSg := bif rg x 256 then (if c = 160 then σ else z_up (z_up σ 53 c x) 50 6 (nI (c + 1))) else σ
theorem t_feed {X : zXs} {d c : Nat} {σ : zSg} {τ : Nat → Nat → Int64} {r : Option Nat} {x : Int32} (hd : 1 ≤ d) (hc : c ≤ 160) (hm : σ 50 6 = nI c) : zF X d m_X7_feed [.ref 50, .int x] L0 (mm σ τ r) (some (.int (v_feed c x))) (mm (w_feed σ c x) τ r) := by
  unfold v_feed w_feed
  refine zF.of mk_X7_feed rfl ?_
  refine zT.step ct_X7_feed_ok ?_
  refine zT.step ct_X7_feed_ok ?_
  refine zT.step ct_X7_feed_ok ?_
  refine zT.step ct_X7_feed_ok ?_
  refine zT.step ct_X7_feed_ok ?_
  refine And.intro hd (zF.use (t_inR (m := 255) (by decide) rfl) ?_)
  refine zT.step ct_X7_feed_ok ?_
  refine And.intro (fun q => ?_) (fun q => ?_)
  · rw [fb0 q]
    refine zT.step ct_X7_feed_ok ?_
    refine zT.step ct_X7_feed_ok ?_
    exact And.intro rfl (And.intro rfl rfl)
  rw [fb1 q]
  refine zT.step ct_X7_feed_ok ?_
  refine zT.step ct_X7_feed_ok ?_
  refine And.intro ⟨by decide, _, rfl⟩ ?_
  refine zT.step ct_X7_feed_ok ?_
  refine zT.step ct_X7_feed_ok ?_
  refine And.intro (fun q => ?_) (fun q => ?_)
  · have q : σ 50 6 = nI 160 := q
    rw [hm] at q
    have q := (nI_eq (by omega) (by decide)).mp q
    rw [if_pos q, if_pos q]
    refine zT.step ct_X7_feed_ok ?_
    refine zT.step ct_X7_feed_ok ?_
    exact And.intro rfl (And.intro rfl rfl)
  · have q : ¬ σ 50 6 = nI 160 := q
    rw [hm] at q
    have q : ¬ c = 160 := fun z => q (by rw [z])
    rw [if_neg q, if_neg q]
    refine zT.step ct_X7_feed_ok ?_
    refine zT.step ct_X7_feed_ok ?_
    refine And.intro ⟨by decide, _, rfl⟩ ?_
    refine zT.step ct_X7_feed_ok ?_
    refine zT.step ct_X7_feed_ok ?_
    refine And.intro ⟨by decide, _, rfl⟩ ?_
    refine zT.step ct_X7_feed_ok ?_
    refine zT.step ct_X7_feed_ok ?_
    refine Exists.intro c (And.intro ⟨hm, by decide, 160, rfl, by omega, by decide⟩ ?_)
    refine zT.step ct_X7_feed_ok ?_
    refine zT.step ct_X7_feed_ok ?_
    refine zT.step ct_X7_feed_ok ?_
    refine And.intro ⟨by decide, _, rfl⟩ ?_
    refine zT.step ct_X7_feed_ok ?_
    refine zT.step ct_X7_feed_ok ?_
    refine zT.step ct_X7_feed_ok ?_
    refine And.intro ⟨by decide, _, rfl⟩ ?_
    refine zT.step ct_X7_feed_ok ?_
    refine zT.step ct_X7_feed_ok ?_
    refine And.intro ⟨by decide, _, rfl⟩ ?_
    refine zT.step ct_X7_feed_ok ?_
    have e1 : z_up σ 53 c x 50 6 + 1 = nI (c + 1) := by rw [zu_n _ _ _ _ _ (by decide), hm, nI_1]
    refine And.intro ?_ (And.intro rfl ?_)
    · show some (Value.int (z_up (z_up σ 53 c x) 50 6 (z_up σ 53 c x 50 6 + 1) 50 6)) = _
      rw [z_up_s, e1]
      rfl
    · show mm (z_up (z_up σ 53 c x) 50 6 (z_up σ 53 c x 50 6 + 1)) τ r = _
      rw [e1]
      rfl
