/-! the reference's seeks, best, place, shade, send -/
theorem TX.cls {a a' σ : zSg} {t : Nat} (h : ∀ b, 16 ≤ b → a' b = a b) (H : TX a σ t) : TX a' σ t := by
  obtain ⟨sz, g, hT, hg, h1, h2, h3, h4, h5⟩ := H
  exact ⟨sz, g, hT, hg, h1, fun j hj => by rw [h _ (by omega)]; exact h2 j hj, by rw [h _ (by omega)]; exact h3, by rw [h _ (by omega)]; exact h4, by rw [h _ (by omega)]; exact h5⟩
def rcC (k : Nat) : Nat := if k = 0 then 54 else 55
def rcS (k x : Nat) : Nat := if k = 0 then x else 3 * x + (k - 1)
/-- a thing's word changed on both sides -/
theorem RE.chg {a σ : zSg} {n t m k x : Nat} {v : Int32} (hk : k < 4) (hx : x < n) (hv : TH1 (mv a x k v (8 + x))) (H : RE a σ n t m) : RE (mv a x k v) (z_up σ (rcC k) (rcS k x) v) n t m := by
  obtain ⟨⟨h1, h2, h3, h4, h5, h6⟩, ⟨h7, h8⟩, h9, h10, h11⟩ := H
  have c50 : z_up σ (rcC k) (rcS k x) v 50 = σ 50 := zu_n _ _ _ _ _ (by unfold rcC; split <;> decide)
  have c51 : z_up σ (rcC k) (rcS k x) v 51 = σ 51 := zu_n _ _ _ _ _ (by unfold rcC; split <;> decide)
  have c52 : z_up σ (rcC k) (rcS k x) v 52 = σ 52 := zu_n _ _ _ _ _ (by unfold rcC; split <;> decide)
  have m1 : mv a x k v 1 = a 1 := mv_o _ _ _ _ _ (by omega)
  refine ⟨⟨h1, by rw [c50]; exact h2, h3, h4, by rw [c50]; exact h5, by rw [c50]; exact h6⟩, ⟨by rw [c50, m1]; exact h7, by rw [c50, m1]; exact h8⟩, fun i hi => ?_, fun i hi => ?_, fun t' ht => ((h11 t' ht).mono c51 c52).cls (fun b hb => mv_o _ _ _ _ _ (by omega))⟩
  · obtain ⟨k0, r0, r1, r2⟩ := h9 i hi
    by_cases hix : i = x
    · subst hix
      have em : ∀ j, mv a i k v (8 + i) j = if j = k then v else a (8 + i) j := by
        intro j
        unfold mv
        by_cases q : j = k
        · rw [if_pos q, q, z_up_s]
        · rw [if_neg q, zu_k _ _ _ _ _ q]
      rw [em, em, em, em]
      match k, hk with
      | 0, _ =>
        refine ⟨z_up_s _ _ _ _, ?_, ?_, ?_⟩
        · show z_up σ 54 i v 55 _ = _; rw [zu_n _ _ _ _ _ (by decide)]; exact r0
        · show z_up σ 54 i v 55 _ = _; rw [zu_n _ _ _ _ _ (by decide)]; exact r1
        · show z_up σ 54 i v 55 _ = _; rw [zu_n _ _ _ _ _ (by decide)]; exact r2
      | 1, _ =>
        refine ⟨?_, z_up_s _ _ _ _, ?_, ?_⟩
        · show z_up σ 55 _ v 54 _ = _; rw [zu_n _ _ _ _ _ (by decide)]; exact k0
        · show z_up σ 55 (3 * i) v 55 _ = _; rw [zu_k _ _ _ _ _ (by omega)]; exact r1
        · show z_up σ 55 (3 * i) v 55 _ = _; rw [zu_k _ _ _ _ _ (by omega)]; exact r2
      | 2, _ =>
        refine ⟨?_, ?_, z_up_s _ _ _ _, ?_⟩
        · show z_up σ 55 _ v 54 _ = _; rw [zu_n _ _ _ _ _ (by decide)]; exact k0
        · show z_up σ 55 (3 * i + 1) v 55 _ = _; rw [zu_k _ _ _ _ _ (by omega)]; exact r0
        · show z_up σ 55 (3 * i + 1) v 55 _ = _; rw [zu_k _ _ _ _ _ (by omega)]; exact r2
      | 3, _ =>
        refine ⟨?_, ?_, ?_, z_up_s _ _ _ _⟩
        · show z_up σ 55 _ v 54 _ = _; rw [zu_n _ _ _ _ _ (by decide)]; exact k0
        · show z_up σ 55 (3 * i + 2) v 55 _ = _; rw [zu_k _ _ _ _ _ (by omega)]; exact r0
        · show z_up σ 55 (3 * i + 2) v 55 _ = _; rw [zu_k _ _ _ _ _ (by omega)]; exact r1
    · rw [mv_o _ _ _ _ (8 + i) (by omega)]
      have e4 : z_up σ (rcC k) (rcS k x) v 54 i = σ 54 i := z_up_n _ _ _ _ _ _ (fun z => by
        have z1 := z.1; have z2 := z.2
        unfold rcC at z1; unfold rcS at z2
        by_cases q : k = 0
        · rw [if_pos q] at z2; exact hix z2
        · rw [if_neg q] at z1; exact absurd z1 (by decide))
      have e5 : ∀ j, j < 3 → z_up σ (rcC k) (rcS k x) v 55 (3 * i + j) = σ 55 (3 * i + j) := fun j hj => z_up_n _ _ _ _ _ _ (fun z => by
        have z1 := z.1; have z2 := z.2
        unfold rcC at z1; unfold rcS at z2
        by_cases q : k = 0
        · rw [if_pos q] at z1; exact absurd z1 (by decide)
        · rw [if_neg q] at z2; omega)
      exact ⟨e4.trans k0, (e5 0 (by decide)).trans r0, (e5 1 (by decide)).trans r1, (e5 2 (by decide)).trans r2⟩
  · by_cases hix : i = x
    · rw [hix]; exact hv
    · rw [mv_o _ _ _ _ (8 + i) (by omega)]; exact h10 i hi
theorem TH1.cell {a : zSg} {x c : Nat} (h : TH1 (a (8 + x))) (hc : c < 30) : TH1 (mv a x 3 (nI c) (8 + x)) := by
  obtain ⟨h0, h1, h2, -⟩ := h
  unfold mv
  refine ⟨?_, ?_, ?_, c, hc, z_up_s _ _ _ _⟩
  · rw [zu_k _ _ _ _ _ (by decide)]; exact h0
  · rw [zu_k _ _ _ _ _ (by decide)]; exact h1
  · rw [zu_k _ _ _ _ _ (by decide)]; exact h2
theorem SZ.up5 {σ σ' : zSg} {b k : Nat} {v : Int32} (h : SZ σ σ') : SZ (z_up σ b k v) (z_up σ' b k v) := by
  refine ⟨fun x x0 x6 x7 x8 => ?_, fun j hj => ?_⟩
  · by_cases q : x = b
    · subst q; rw [zu_s, zu_s, h.1 x x0 x6 x7 x8]
    · rw [zu_n _ _ _ _ _ q, zu_n _ _ _ _ _ q, h.1 x x0 x6 x7 x8]
  · by_cases q : 50 = b
    · subst q
      by_cases q2 : j = k
      · subst q2; rw [z_up_s, z_up_s]
      · rw [zu_k _ _ _ _ _ q2, zu_k _ _ _ _ _ q2, h.2 j hj]
    · rw [zu_n _ _ _ _ _ q, zu_n _ _ _ _ _ q, h.2 j hj]
theorem t_seeks {X : zXs} {d n t m h x : Nat} {a σ : zSg} {τ : Nat → Nat → Int64} {r : Option Nat} {al : Int32} (hd : 56 ≤ d) (hE : RE a σ n t m) (hh : h < 13) (hx : x < n) (ha : σ 50 27 = -1) : zC X d 0 0 m_X7_seeks [.ref 50, .int (nI x), .int (nI h), .int al] L0 (mm σ τ r) (fun y L2 μ2 => y = none ∧ L2 = L0 ∧ ∃ σ' τ', μ2 = mm σ' τ' r ∧ SQ σ σ' ∧ σ' 50 32 = (cLeast (cVal a n t h x al) 30).1 ∧ σ' 50 33 = (cLeast (cVal a n t h x al) 30).2) := by
  have h8 := hE.1.1
  obtain ⟨Q, hQ⟩ : ∃ Q : zRQ, Q = (fun y L2 μ2 => y = none ∧ L2 = L0 ∧ ∃ σ' τ', μ2 = mm σ' τ' r ∧ SQ σ σ' ∧ σ' 50 32 = (cLeast (cVal a n t h x al) 30).1 ∧ σ' 50 33 = (cLeast (cVal a n t h x al) 30).2) := ⟨_, rfl⟩
  rw [← hQ]
  obtain ⟨val, hval⟩ : ∃ val, val = cVal a n t h x al := ⟨_, rfl⟩
  rw [← hval] at hQ
  have lp : ∀ (m' c : Nat) (w : Int32) (σ1 : zSg) (τ1 : Nat → Nat → Int64), c + m' = 30 → SZ (z_up σ 55 (3 * x + 2) w) σ1 → σ1 50 27 = -1 → σ1 50 32 = (cLeast val c).1 → σ1 50 33 = (cLeast val c).2 → zT X d m_X7_seeks Q 0 0 25 [some (.ref 50), some (.int (nI x)), some (.int (nI h)), some (.int al), some (.int (σ 55 (3 * x + 2))), some (.int (nI c)), none] [] L0 (mm σ1 τ1 r) := by
    intro m'
    induction m' with
    | zero =>
      intro c w σ1 τ1 hc S g27 g32 g33
      have hc : c = 30 := by omega
      subst hc
      refine zT.step ct_X7_seeks_ok ?_
      refine zT.step ct_X7_seeks_ok ?_
      refine zT.step ct_X7_seeks_ok ?_
      refine And.intro (fun _ => ?_) (fun q => absurd (by decide) q)
      refine zT.step ct_X7_seeks_ok ?_
      refine zT.step ct_X7_seeks_ok ?_
      refine And.intro ⟨by decide, _, rfl⟩ ?_
      refine zT.step ct_X7_seeks_ok ?_
      refine zT.step ct_X7_seeks_ok ?_
      refine zT.step ct_X7_seeks_ok ?_
      refine zT.step ct_X7_seeks_ok ?_
      refine zT.step ct_X7_seeks_ok ?_
      refine zT.step ct_X7_seeks_ok ?_
      refine zT.step ct_X7_seeks_ok ?_
      refine Exists.intro (3 * x + 2) (And.intro ⟨nI_3x x 2, by decide, 24, rfl, by omega, by decide⟩ ?_)
      refine zT.step ct_X7_seeks_ok ?_
      rw [hQ]
      have S2 := S.up5 (b := 55) (k := 3 * x + 2) (v := σ 55 (3 * x + 2))
      have e2 : z_up (z_up σ 55 (3 * x + 2) w) 55 (3 * x + 2) (σ 55 (3 * x + 2)) = σ := by
        rw [zu_zu]
        funext p q
        unfold z_up
        by_cases z : p = 55 ∧ q = 3 * x + 2
        · rw [if_pos z, z.1, z.2]
        · rw [if_neg z]
      rw [e2] at S2
      refine And.intro rfl (And.intro rfl ⟨z_up σ1 55 (3 * x + 2) (σ 55 (3 * x + 2)), τ1, rfl, ⟨S2, ?_⟩, ?_, ?_⟩)
      · rw [zu_n _ _ _ _ _ (by decide), g27, ha]
      · rw [zu_n _ _ _ _ _ (by decide)]; exact g32
      · rw [zu_n _ _ _ _ _ (by decide)]; exact g33
    | succ m' ih =>
      intro c w σ1 τ1 hc S g27 g32 g33
      have S2 := S.up5 (b := 55) (k := 3 * x + 2) (v := nI c)
      rw [zu_zu] at S2
      obtain ⟨σ2, e2⟩ : ∃ σ2, σ2 = z_up σ1 55 (3 * x + 2) (nI c) := ⟨_, rfl⟩
      have h50 : σ2 50 = σ1 50 := by rw [e2, zu_n _ _ _ _ _ (by decide)]
      rw [← e2] at S2
      have hE2 : RE (mv a x 3 (nI c)) σ2 n t m := (hE.chg (k := 3) (by decide) hx ((hE.2.2.2.1 x hx).cell (show c < 30 by omega))).sz S2
      -- from 62 on
      have back : ∀ (σ3 : zSg) (τ3 : Nat → Nat → Int64), SG σ2 σ3 → zT X d m_X7_seeks Q 0 0 62 [some (.ref 50), some (.int (nI x)), some (.int (nI h)), some (.int al), some (.int (σ 55 (3 * x + 2))), some (.int (nI c)), none] [.int (val c)] L0 (mm σ3 τ3 r) := by
        intro σ3 τ3 S3
        have S4 : SZ (z_up σ 55 (3 * x + 2) (nI c)) σ3 := S2.trans S3.sz
        have k27 : σ3 50 27 = -1 := (S3.2 27 (by omega)).trans (by rw [h50]; exact g27)
        have k32 : σ3 50 32 = (cLeast val c).1 := (S3.2 32 (by omega)).trans (by rw [h50]; exact g32)
        have k33 : σ3 50 33 = (cLeast val c).2 := (S3.2 33 (by omega)).trans (by rw [h50]; exact g33)
        have el : cLeast val (c + 1) = if (cLeast val c).1 = -1 ∨ val c < (cLeast val c).2 then (nI c, val c) else cLeast val c := rfl
        have put : ((cLeast val c).1 = -1 ∨ val c < (cLeast val c).2) → zT X d m_X7_seeks Q 0 0 81 [some (.ref 50), some (.int (nI x)), some (.int (nI h)), some (.int al), some (.int (σ 55 (3 * x + 2))), some (.int (nI c)), some (.int (val c))] [] L0 (mm σ3 τ3 r) := by
          intro z
          rw [if_pos z] at el
          refine zT.step ct_X7_seeks_ok ?_
          refine zT.step ct_X7_seeks_ok ?_
          refine zT.step ct_X7_seeks_ok ?_
          refine And.intro ⟨by decide, _, rfl⟩ ?_
          refine zT.step ct_X7_seeks_ok ?_
          refine zT.step ct_X7_seeks_ok ?_
          refine zT.step ct_X7_seeks_ok ?_
          refine And.intro ⟨by decide, _, rfl⟩ ?_
          refine zT.step ct_X7_seeks_ok ?_
          refine zT.step ct_X7_seeks_ok ?_
          refine zT.drop 6 ?_
          rw [nI_1]
          refine ih (c + 1) (nI c) (z_up (z_up σ3 50 32 (nI c)) 50 33 (val c)) τ3 (by omega) ((S4.trans (SZ.up (Or.inr (Or.inl rfl)))).trans (SZ.up (Or.inr (Or.inr rfl)))) ?_ ?_ ?_
          · rw [zu_k _ _ _ _ _ (by decide), zu_k _ _ _ _ _ (by decide)]; exact k27
          · rw [zu_k _ _ _ _ _ (by decide), z_up_s, el]
          · rw [z_up_s, el]
        refine zT.step ct_X7_seeks_ok ?_
        refine zT.step ct_X7_seeks_ok ?_
        refine zT.step ct_X7_seeks_ok ?_
        refine And.intro ⟨by decide, _, rfl⟩ ?_
        refine zT.step ct_X7_seeks_ok ?_
        refine zT.step ct_X7_seeks_ok ?_
        refine And.intro (fun z => ?_) (fun z => ?_)
        · have z : σ3 50 32 = -1 := z
          rw [k32] at z
          exact put (Or.inl z)
        have z : ¬ σ3 50 32 = -1 := z
        rw [k32] at z
        refine zT.step ct_X7_seeks_ok ?_
        refine zT.step ct_X7_seeks_ok ?_
        refine zT.step ct_X7_seeks_ok ?_
        refine And.intro ⟨by decide, _, rfl⟩ ?_
        refine zT.step ct_X7_seeks_ok ?_
        refine And.intro (fun z2 => ?_) (fun z2 => ?_)
        · have z2 : σ3 50 33 ≤ val c := z2
          rw [k33] at z2
          rw [if_neg (fun w => w.elim z (fun w => absurd w (Int32.not_lt.mpr z2)))] at el
          refine zT.step ct_X7_seeks_ok ?_
          refine zT.step ct_X7_seeks_ok ?_
          refine zT.drop 6 ?_
          rw [nI_1]
          exact ih (c + 1) (nI c) σ3 τ3 (by omega) S4 k27 (by rw [el]; exact k32) (by rw [el]; exact k33)
        · have z2 : ¬ σ3 50 33 ≤ val c := z2
          rw [k33] at z2
          exact put (Or.inr (Int32.not_le.mp z2))
      refine zT.step ct_X7_seeks_ok ?_
      refine zT.step ct_X7_seeks_ok ?_
      refine zT.step ct_X7_seeks_ok ?_
      refine And.intro (fun q => absurd q (nI_ge (show c < 30 by omega) (by decide))) (fun _ => ?_)
      refine zT.step ct_X7_seeks_ok ?_
      refine zT.step ct_X7_seeks_ok ?_
      refine And.intro ⟨by decide, _, rfl⟩ ?_
      refine zT.step ct_X7_seeks_ok ?_
      refine zT.step ct_X7_seeks_ok ?_
      refine zT.step ct_X7_seeks_ok ?_
      refine zT.step ct_X7_seeks_ok ?_
      refine zT.step ct_X7_seeks_ok ?_
      refine zT.step ct_X7_seeks_ok ?_
      refine zT.step ct_X7_seeks_ok ?_
      refine Exists.intro (3 * x + 2) (And.intro ⟨nI_3x x 2, by decide, 24, rfl, by omega, by decide⟩ ?_)
      refine zT.eqm (μ' := mm σ2 τ1 r) (by rw [e2]; rfl) ?_
      refine zT.step ct_X7_seeks_ok ?_
      refine zT.step ct_X7_seeks_ok ?_
      refine And.intro (fun z => ?_) (fun z => ?_)
      · have z : al = 0 := z
        refine zT.step ct_X7_seeks_ok ?_
        refine zT.step ct_X7_seeks_ok ?_
        refine zT.step ct_X7_seeks_ok ?_
        refine zT.step ct_X7_seeks_ok ?_
        refine And.intro ⟨by omega, by decide, _, rfl⟩ (zC.use (t_dueOf1 (by omega) hE2 hh hx (by rw [h50]; exact g27)) (fun y L2 μ2 hy => ?_))
        obtain ⟨rfl, rfl, σ3, τ3, rfl, S3, -⟩ := hy
        have ev : cDu (mv a x 3 (nI c)) n t h x = val c := by rw [hval]; unfold cVal; rw [if_pos z]
        rw [ev]
        exact back σ3 τ3 S3
      · have z : ¬ al = 0 := z
        refine zT.step ct_X7_seeks_ok ?_
        refine zT.step ct_X7_seeks_ok ?_
        refine zT.step ct_X7_seeks_ok ?_
        refine And.intro ⟨by omega, by decide, _, rfl⟩ (zC.use (t_takesAll1 (by omega) hE2 hh (by rw [h50]; exact g27)) (fun y L2 μ2 hy => ?_))
        obtain ⟨rfl, rfl, σ3, τ3, rfl, S3, -⟩ := hy
        have ev : cAl (mv a x 3 (nI c)) n t h = val c := by rw [hval]; unfold cVal; rw [if_neg z]
        rw [ev]
        refine zT.step ct_X7_seeks_ok ?_
        exact back σ3 τ3 S3
  refine zC.of mk_X7_seeks rfl ?_
  refine zT.step ct_X7_seeks_ok ?_
  refine zT.step ct_X7_seeks_ok ?_
  refine And.intro ⟨by decide, _, rfl⟩ ?_
  refine zT.step ct_X7_seeks_ok ?_
  refine zT.step ct_X7_seeks_ok ?_
  refine zT.step ct_X7_seeks_ok ?_
  refine zT.step ct_X7_seeks_ok ?_
  refine zT.step ct_X7_seeks_ok ?_
  refine zT.step ct_X7_seeks_ok ?_
  refine Exists.intro (3 * x + 2) (And.intro ⟨nI_3x x 2, by decide, 24, rfl, by omega, by decide⟩ ?_)
  refine zT.step ct_X7_seeks_ok ?_
  refine zT.step ct_X7_seeks_ok ?_
  refine zT.step ct_X7_seeks_ok ?_
  refine zT.step ct_X7_seeks_ok ?_
  refine And.intro ⟨by decide, _, rfl⟩ ?_
  refine zT.step ct_X7_seeks_ok ?_
  refine zT.step ct_X7_seeks_ok ?_
  refine zT.step ct_X7_seeks_ok ?_
  refine And.intro ⟨by decide, _, rfl⟩ ?_
  refine zT.step ct_X7_seeks_ok ?_
  refine zT.step ct_X7_seeks_ok ?_
  refine lp 30 0 (σ 55 (3 * x + 2)) (z_up (z_up σ 50 32 (-1)) 50 33 0) τ rfl ?_ ?_ ?_ ?_
  · have e2 : z_up σ 55 (3 * x + 2) (σ 55 (3 * x + 2)) = σ := by
      funext p q
      unfold z_up
      by_cases z : p = 55 ∧ q = 3 * x + 2
      · rw [if_pos z, z.1, z.2]
      · rw [if_neg z]
    rw [e2]
    exact (SZ.up (Or.inr (Or.inl rfl))).trans (SZ.up (Or.inr (Or.inr rfl)))
  · rw [zu_k _ _ _ _ _ (by decide), zu_k _ _ _ _ _ (by decide)]; exact ha
  · rw [zu_k _ _ _ _ _ (by decide), z_up_s]; rfl
  · rw [z_up_s]; rfl
theorem t_best {X : zXs} {d n t m : Nat} {a σ : zSg} {τ : Nat → Nat → Int64} {r : Option Nat} {x y z : Int32} (hd : 57 ≤ d) (hE : RE a σ n t m) (ha : σ 50 27 = -1) : zC X d 0 0 m_X7_best [.ref 50, .int x, .int y, .int z] L0 (mm σ τ r) (tA σ r (v_best a n t 0 x y z)) := by
  have h8 := hE.1.1
  have bad : (rg x n && rg y 13 && rg z 2) = false → zT X d m_X7_best (tA σ r (v_best a n t 0 x y z)) 0 0 25 [some (.ref 50), some (.int x), some (.int y), some (.int z)] [] L0 (mm σ τ r) := by
    intro e
    unfold v_best
    rw [e]
    refine zT.step ct_X7_best_ok ?_
    refine zT.step ct_X7_best_ok ?_
    exact And.intro rfl (And.intro rfl ⟨σ, τ, rfl, SQ.rf⟩)
  refine zC.of mk_X7_best rfl ?_
  refine zT.step ct_X7_best_ok ?_
  refine zT.step ct_X7_best_ok ?_
  refine zT.step ct_X7_best_ok ?_
  refine And.intro ⟨by omega, by decide, _, rfl⟩ (zF.use (t_isThing (by omega) hE.1.2.1 h8) ?_)
  refine zT.step ct_X7_best_ok ?_
  refine And.intro (fun q => bad (by rw [fb0 q]; rfl)) (fun q1 => ?_)
  have q1 := fb1 q1
  refine zT.step ct_X7_best_ok ?_
  refine zT.step ct_X7_best_ok ?_
  refine And.intro (by omega) (zF.use (t_isHour (by omega)) ?_)
  refine zT.step ct_X7_best_ok ?_
  refine And.intro (fun q => bad (by rw [fb0 q, Bool.and_false]; rfl)) (fun q2 => ?_)
  have q2 := fb1 q2
  refine zT.step ct_X7_best_ok ?_
  refine zT.step ct_X7_best_ok ?_
  refine zT.step ct_X7_best_ok ?_
  refine zT.step ct_X7_best_ok ?_
  refine zT.step ct_X7_best_ok ?_
  refine And.intro (by omega) (zF.use (t_inR (m := 1) (by decide) rfl) ?_)
  refine zT.step ct_X7_best_ok ?_
  refine And.intro (fun q => bad (by rw [fb0 q, Bool.and_false])) (fun q3 => ?_)
  have q3 := fb1 q3
  obtain ⟨ex, hx⟩ := rg_f (by omega) q1
  obtain ⟨ey, hy⟩ := rg_f (by decide) q2
  unfold v_best
  rw [q1, q2, q3]
  generalize x.toNatClampNeg = i at ex hx ⊢
  generalize y.toNatClampNeg = h at ey hy ⊢
  subst ex ey
  refine zT.step ct_X7_best_ok ?_
  refine zT.step ct_X7_best_ok ?_
  refine zT.step ct_X7_best_ok ?_
  refine zT.step ct_X7_best_ok ?_
  refine zT.step ct_X7_best_ok ?_
  refine And.intro ⟨by omega, by decide, _, rfl⟩ (zC.use (t_seeks (by omega) hE hy hx ha) (fun y L2 μ2 hy => ?_))
  obtain ⟨rfl, rfl, σ1, τ1, rfl, S, g32, g33⟩ := hy
  refine zT.step ct_X7_best_ok ?_
  refine zT.step ct_X7_best_ok ?_
  refine And.intro (fun q => ?_) (fun q => ?_)
  · have q : z = 0 := q
    refine zT.step ct_X7_best_ok ?_
    refine zT.step ct_X7_best_ok ?_
    refine And.intro ⟨by decide, _, rfl⟩ ?_
    refine zT.step ct_X7_best_ok ?_
    refine zT.step ct_X7_best_ok ?_
    exact And.intro (by rw [if_pos q]; exact congrArg (fun v => some (Value.int v)) g32) (And.intro rfl ⟨σ1, τ1, rfl, S⟩)
  · have q : ¬ z = 0 := q
    refine zT.step ct_X7_best_ok ?_
    refine zT.step ct_X7_best_ok ?_
    refine And.intro ⟨by decide, _, rfl⟩ ?_
    refine zT.step ct_X7_best_ok ?_
    exact And.intro (by rw [if_neg q]; exact congrArg (fun v => some (Value.int v)) g33) (And.intro rfl ⟨σ1, τ1, rfl, S⟩)
theorem t_place {X : zXs} {d n t m : Nat} {a σ : zSg} {τ : Nat → Nat → Int64} {r : Option Nat} {x y z : Int32} (hd : 57 ≤ d) (hE : RE a σ n t m) (ha : σ 50 27 = -1) : zC X d 0 0 m_X7_place [.ref 50, .int x, .int y, .int z] L0 (mm σ τ r) (tA σ r (v_best a n t 1 x y z)) := by
  have h8 := hE.1.1
  have bad : (rg x n && rg y 13 && rg z 2) = false → zT X d m_X7_place (tA σ r (v_best a n t 1 x y z)) 0 0 25 [some (.ref 50), some (.int x), some (.int y), some (.int z)] [] L0 (mm σ τ r) := by
    intro e
    unfold v_best
    rw [e]
    refine zT.step ct_X7_place_ok ?_
    refine zT.step ct_X7_place_ok ?_
    exact And.intro rfl (And.intro rfl ⟨σ, τ, rfl, SQ.rf⟩)
  refine zC.of mk_X7_place rfl ?_
  refine zT.step ct_X7_place_ok ?_
  refine zT.step ct_X7_place_ok ?_
  refine zT.step ct_X7_place_ok ?_
  refine And.intro ⟨by omega, by decide, _, rfl⟩ (zF.use (t_isThing (by omega) hE.1.2.1 h8) ?_)
  refine zT.step ct_X7_place_ok ?_
  refine And.intro (fun q => bad (by rw [fb0 q]; rfl)) (fun q1 => ?_)
  have q1 := fb1 q1
  refine zT.step ct_X7_place_ok ?_
  refine zT.step ct_X7_place_ok ?_
  refine And.intro (by omega) (zF.use (t_isHour (by omega)) ?_)
  refine zT.step ct_X7_place_ok ?_
  refine And.intro (fun q => bad (by rw [fb0 q, Bool.and_false]; rfl)) (fun q2 => ?_)
  have q2 := fb1 q2
  refine zT.step ct_X7_place_ok ?_
  refine zT.step ct_X7_place_ok ?_
  refine zT.step ct_X7_place_ok ?_
  refine zT.step ct_X7_place_ok ?_
  refine zT.step ct_X7_place_ok ?_
  refine And.intro (by omega) (zF.use (t_inR (m := 1) (by decide) rfl) ?_)
  refine zT.step ct_X7_place_ok ?_
  refine And.intro (fun q => bad (by rw [fb0 q, Bool.and_false])) (fun q3 => ?_)
  have q3 := fb1 q3
  obtain ⟨ex, hx⟩ := rg_f (by omega) q1
  obtain ⟨ey, hy⟩ := rg_f (by decide) q2
  unfold v_best
  rw [q1, q2, q3]
  generalize x.toNatClampNeg = i at ex hx ⊢
  generalize y.toNatClampNeg = h at ey hy ⊢
  subst ex ey
  refine zT.step ct_X7_place_ok ?_
  refine zT.step ct_X7_place_ok ?_
  refine zT.step ct_X7_place_ok ?_
  refine zT.step ct_X7_place_ok ?_
  refine zT.step ct_X7_place_ok ?_
  refine And.intro ⟨by omega, by decide, _, rfl⟩ (zC.use (t_seeks (by omega) hE hy hx ha) (fun y L2 μ2 hy => ?_))
  obtain ⟨rfl, rfl, σ1, τ1, rfl, S, g32, g33⟩ := hy
  refine zT.step ct_X7_place_ok ?_
  refine zT.step ct_X7_place_ok ?_
  refine And.intro (fun q => ?_) (fun q => ?_)
  · have q : z = 0 := q
    refine zT.step ct_X7_place_ok ?_
    refine zT.step ct_X7_place_ok ?_
    refine And.intro ⟨by decide, _, rfl⟩ ?_
    refine zT.step ct_X7_place_ok ?_
    refine zT.step ct_X7_place_ok ?_
    exact And.intro (by rw [if_pos q]; exact congrArg (fun v => some (Value.int v)) g32) (And.intro rfl ⟨σ1, τ1, rfl, S⟩)
  · have q : ¬ z = 0 := q
    refine zT.step ct_X7_place_ok ?_
    refine zT.step ct_X7_place_ok ?_
    refine And.intro ⟨by decide, _, rfl⟩ ?_
    refine zT.step ct_X7_place_ok ?_
    exact And.intro (by rw [if_neg q]; exact congrArg (fun v => some (Value.int v)) g33) (And.intro rfl ⟨σ1, τ1, rfl, S⟩)
theorem wo_eq2 {a : zSg} {n t h x i : Nat} (hn : n ≤ 8) (hx : x < n) (hi : i < n) : f_due (cWo a n t h x) (cD a t h) i = dA a n t h (nI x) i := by
  unfold dA cWo
  rw [due_b (by omega), b_or, b_w (by omega) (by omega)]
  by_cases q : i = x
  · rw [if_pos (by rw [q]), decide_eq_true q, Bool.or_true]; rfl
  · rw [if_neg (fun z => q ((nI_eq (by omega) (by omega)).mp z)), decide_eq_false q, Bool.or_false, due_b (by omega)]
theorem shade_ge {a : zSg} {n t h i : Nat} : ∀ x, cDu a n t h i ≤ (cShade a n t h i x).2 := by
  intro x
  induction x with
  | zero => exact Int32.le_refl _
  | succ x ih =>
    unfold cShade
    by_cases q : x = i
    · rw [if_pos q]; exact ih
    · rw [if_neg q]
      by_cases z : f_due (cWo a n t h x) (cD a t h) i ≤ (cShade a n t h i x).2
      · rw [if_pos z]; exact ih
      · rw [if_neg z]; exact Int32.le_trans ih (Int32.le_of_lt (Int32.not_le.mp z))
theorem t_shade {X : zXs} {d n t m : Nat} {a σ : zSg} {τ : Nat → Nat → Int64} {r : Option Nat} {x y z : Int32} (hd : 57 ≤ d) (hE : RE a σ n t m) (ha : σ 50 27 = -1) : zC X d 0 0 m_X7_shade [.ref 50, .int x, .int y, .int z] L0 (mm σ τ r) (tA σ r (v_shade a n t x y z)) := by
  have h8 := hE.1.1
  have bad : (rg x n && rg y 13 && rg z 2) = false → zT X d m_X7_shade (tA σ r (v_shade a n t x y z)) 0 0 25 [some (.ref 50), some (.int x), some (.int y), some (.int z), none, none] [] L0 (mm σ τ r) := by
    intro e
    unfold v_shade
    rw [e]
    refine zT.step ct_X7_shade_ok ?_
    refine zT.step ct_X7_shade_ok ?_
    exact And.intro rfl (And.intro rfl ⟨σ, τ, rfl, SQ.rf⟩)
  refine zC.of mk_X7_shade rfl ?_
  refine zT.step ct_X7_shade_ok ?_
  refine zT.step ct_X7_shade_ok ?_
  refine zT.step ct_X7_shade_ok ?_
  refine And.intro ⟨by omega, by decide, _, rfl⟩ (zF.use (t_isThing (by omega) hE.1.2.1 h8) ?_)
  refine zT.step ct_X7_shade_ok ?_
  refine And.intro (fun q => bad (by rw [fb0 q]; rfl)) (fun q1 => ?_)
  have q1 := fb1 q1
  refine zT.step ct_X7_shade_ok ?_
  refine zT.step ct_X7_shade_ok ?_
  refine And.intro (by omega) (zF.use (t_isHour (by omega)) ?_)
  refine zT.step ct_X7_shade_ok ?_
  refine And.intro (fun q => bad (by rw [fb0 q, Bool.and_false]; rfl)) (fun q2 => ?_)
  have q2 := fb1 q2
  refine zT.step ct_X7_shade_ok ?_
  refine zT.step ct_X7_shade_ok ?_
  refine zT.step ct_X7_shade_ok ?_
  refine zT.step ct_X7_shade_ok ?_
  refine zT.step ct_X7_shade_ok ?_
  refine And.intro (by omega) (zF.use (t_inR (m := 1) (by decide) rfl) ?_)
  refine zT.step ct_X7_shade_ok ?_
  refine And.intro (fun q => bad (by rw [fb0 q, Bool.and_false])) (fun q3 => ?_)
  have q3 := fb1 q3
  obtain ⟨ex, hx⟩ := rg_f (by omega) q1
  obtain ⟨ey, hy⟩ := rg_f (by decide) q2
  unfold v_shade
  rw [q1, q2, q3]
  generalize x.toNatClampNeg = i at ex hx ⊢
  generalize y.toNatClampNeg = h at ey hy ⊢
  subst ex ey
  obtain ⟨Q, hQ⟩ : ∃ Q : zRQ, Q = tA σ r (bif true && true && true then (if z = 0 then (cShade a n t h i n).1 else (cShade a n t h i n).2) else -2) := ⟨_, rfl⟩
  rw [← hQ]
  have lp : ∀ (m' k : Nat) (σ1 : zSg) (τ1 : Nat → Nat → Int64), k + m' = n → SZ σ σ1 → σ1 50 27 = -1 → σ1 50 32 = (cShade a n t h i k).1 → σ1 50 33 = (cShade a n t h i k).2 → zT X d m_X7_shade Q 0 0 46 [some (.ref 50), some (.int (nI i)), some (.int (nI h)), some (.int z), some (.int (nI k)), none] [] L0 (mm σ1 τ1 r) := by
    intro m'
    induction m' with
    | zero =>
      intro k σ1 τ1 hk S g27 g32 g33
      have hk : k = n := by omega
      subst hk
      have mny : σ1 50 11 = nI k := (S.2 11 (by omega)).trans hE.1.2.1
      refine zT.step ct_X7_shade_ok ?_
      refine zT.step ct_X7_shade_ok ?_
      refine zT.step ct_X7_shade_ok ?_
      refine And.intro ⟨by decide, _, rfl⟩ ?_
      refine zT.step ct_X7_shade_ok ?_
      refine And.intro (fun _ => ?_) (fun q => ?_)
      case refine_2 =>
        have q : ¬ σ1 50 11 ≤ nI k := q
        rw [mny] at q
        exact absurd (nI_le (Nat.le_refl k) (by omega)) q
      refine zT.step ct_X7_shade_ok ?_
      refine zT.step ct_X7_shade_ok ?_
      refine And.intro (fun q => ?_) (fun q => ?_)
      · have q : z = 0 := q
        refine zT.step ct_X7_shade_ok ?_
        refine zT.step ct_X7_shade_ok ?_
        refine And.intro ⟨by decide, _, rfl⟩ ?_
        refine zT.step ct_X7_shade_ok ?_
        refine zT.step ct_X7_shade_ok ?_
        rw [hQ]
        exact And.intro (by rw [if_pos q]; exact congrArg (fun v => some (Value.int v)) g32) (And.intro rfl ⟨σ1, τ1, rfl, S, by rw [g27, ha]⟩)
      · have q : ¬ z = 0 := q
        refine zT.step ct_X7_shade_ok ?_
        refine zT.step ct_X7_shade_ok ?_
        refine And.intro ⟨by decide, _, rfl⟩ ?_
        refine zT.step ct_X7_shade_ok ?_
        rw [hQ]
        exact And.intro (by rw [if_neg q]; exact congrArg (fun v => some (Value.int v)) g33) (And.intro rfl ⟨σ1, τ1, rfl, S, by rw [g27, ha]⟩)
    | succ m' ih =>
      intro k σ1 τ1 hk S g27 g32 g33
      have mny : σ1 50 11 = nI n := (S.2 11 (by omega)).trans hE.1.2.1
      have es : cShade a n t h i (k + 1) = if k = i then cShade a n t h i k else if f_due (cWo a n t h k) (cD a t h) i ≤ (cShade a n t h i k).2 then cShade a n t h i k else (nI k, f_due (cWo a n t h k) (cD a t h) i) := rfl
      -- from 68 on; aw: who is nowhere, v: what is due then
      have body : ∀ (aw v : Int32), dA a n t h aw i = v → cShade a n t h i (k + 1) = (if v ≤ (cShade a n t h i k).2 then cShade a n t h i k else (nI k, v)) → zT X d m_X7_shade Q 0 0 68 [some (.ref 50), some (.int (nI i)), some (.int (nI h)), some (.int z), some (.int (nI k)), none] [.int aw, .ref 50] L0 (mm σ1 τ1 r) := by
        intro aw v hv ec
        have S2 : SZ σ (z_up σ1 50 27 aw) := S.trans (SZ.up (Or.inl rfl))
        have du := t_dueOf (X := X) (d := d - 1) (τ := τ1) (r := r) (by omega) (hE.sz S2) hy hx (z_up_s _ _ _ _)
        rw [hv] at du
        refine zT.step ct_X7_shade_ok ?_
        refine And.intro ⟨by decide, _, rfl⟩ ?_
        refine zT.step ct_X7_shade_ok ?_
        refine zT.step ct_X7_shade_ok ?_
        refine zT.step ct_X7_shade_ok ?_
        refine zT.step ct_X7_shade_ok ?_
        refine And.intro ⟨by omega, by decide, _, rfl⟩ (zC.use du (fun y L2 μ2 hy => ?_))
        obtain ⟨rfl, rfl, σ2, τ2, rfl, S3, -⟩ := hy
        have S4 : SZ σ (z_up σ2 50 27 (-1)) := (S2.trans S3.sz).trans (SZ.up (Or.inl rfl))
        have k27 : z_up σ2 50 27 (-1) 50 27 = -1 := z_up_s _ _ _ _
        have k32 : z_up σ2 50 27 (-1) 50 32 = (cShade a n t h i k).1 := by rw [zu_k _ _ _ _ _ (by decide), S3.2 32 (by omega), zu_k _ _ _ _ _ (by decide)]; exact g32
        have k33 : z_up σ2 50 27 (-1) 50 33 = (cShade a n t h i k).2 := by rw [zu_k _ _ _ _ _ (by decide), S3.2 33 (by omega), zu_k _ _ _ _ _ (by decide)]; exact g33
        refine zT.step ct_X7_shade_ok ?_
        refine zT.step ct_X7_shade_ok ?_
        refine zT.step ct_X7_shade_ok ?_
        refine zT.step ct_X7_shade_ok ?_
        refine And.intro ⟨by decide, _, rfl⟩ ?_
        refine zT.eqm (μ' := mm (z_up σ2 50 27 (-1)) τ2 r) rfl ?_
        generalize z_up σ2 50 27 (-1) = σ3 at S4 k27 k32 k33
        refine zT.step ct_X7_shade_ok ?_
        refine zT.step ct_X7_shade_ok ?_
        refine zT.step ct_X7_shade_ok ?_
        refine And.intro ⟨by decide, _, rfl⟩ ?_
        refine zT.step ct_X7_shade_ok ?_
        refine And.intro (fun q => ?_) (fun q => ?_)
        · have q : v ≤ σ3 50 33 := q
          rw [k33] at q
          rw [if_pos q] at ec
          refine zT.step ct_X7_shade_ok ?_
          refine zT.step ct_X7_shade_ok ?_
          refine zT.drop 5 ?_
          rw [nI_1]
          exact ih (k + 1) σ3 τ2 (by omega) S4 k27 (by rw [ec]; exact k32) (by rw [ec]; exact k33)
        · have q : ¬ v ≤ σ3 50 33 := q
          rw [k33] at q
          rw [if_neg q] at ec
          refine zT.step ct_X7_shade_ok ?_
          refine zT.step ct_X7_shade_ok ?_
          refine zT.step ct_X7_shade_ok ?_
          refine And.intro ⟨by decide, _, rfl⟩ ?_
          refine zT.step ct_X7_shade_ok ?_
          refine zT.step ct_X7_shade_ok ?_
          refine zT.step ct_X7_shade_ok ?_
          refine And.intro ⟨by decide, _, rfl⟩ ?_
          refine zT.step ct_X7_shade_ok ?_
          refine zT.step ct_X7_shade_ok ?_
          refine zT.drop 5 ?_
          rw [nI_1]
          refine ih (k + 1) (z_up (z_up σ3 50 32 (nI k)) 50 33 v) τ2 (by omega) ((S4.trans (SZ.up (Or.inr (Or.inl rfl)))).trans (SZ.up (Or.inr (Or.inr rfl)))) ?_ ?_ ?_
          · rw [zu_k _ _ _ _ _ (by decide), zu_k _ _ _ _ _ (by decide)]; exact k27
          · rw [zu_k _ _ _ _ _ (by decide), z_up_s, ec]
          · rw [z_up_s, ec]
      refine zT.step ct_X7_shade_ok ?_
      refine zT.step ct_X7_shade_ok ?_
      refine zT.step ct_X7_shade_ok ?_
      refine And.intro ⟨by decide, _, rfl⟩ ?_
      refine zT.step ct_X7_shade_ok ?_
      refine And.intro (fun q => ?_) (fun _ => ?_)
      · have q : σ1 50 11 ≤ nI k := q
        rw [mny] at q
        exact absurd q (nI_ge (show k < n by omega) (by omega))
      refine zT.step ct_X7_shade_ok ?_
      refine zT.step ct_X7_shade_ok ?_
      refine zT.step ct_X7_shade_ok ?_
      refine zT.step ct_X7_shade_ok ?_
      refine And.intro (fun q => ?_) (fun q => ?_)
      · have q : nI k = nI i := q
        have q := (nI_eq (by omega) (by omega)).mp q
        rw [if_pos q] at es
        refine zT.step ct_X7_shade_ok ?_
        refine zT.step ct_X7_shade_ok ?_
        refine body (-1) (cDu a n t h i) (du_eq (by omega)) ?_
        rw [es, if_pos (shade_ge k)]
      · have q : ¬ nI k = nI i := q
        have q : ¬ k = i := fun w => q (by rw [w])
        rw [if_neg q] at es
        refine zT.step ct_X7_shade_ok ?_
        exact body (nI k) _ (wo_eq2 h8 (by omega) hx).symm es
  refine zT.step ct_X7_shade_ok ?_
  refine zT.step ct_X7_shade_ok ?_
  refine zT.step ct_X7_shade_ok ?_
  refine And.intro ⟨by decide, _, rfl⟩ ?_
  refine zT.step ct_X7_shade_ok ?_
  refine zT.step ct_X7_shade_ok ?_
  refine zT.step ct_X7_shade_ok ?_
  refine zT.step ct_X7_shade_ok ?_
  refine zT.step ct_X7_shade_ok ?_
  have du := t_dueOf1 (X := X) (d := d - 1) (τ := τ) (r := r) (σ := z_up σ 50 32 (-1)) (by omega) (hE.sz (SZ.up (Or.inr (Or.inl rfl)))) hy hx (by rw [zu_k _ _ _ _ _ (by decide)]; exact ha)
  refine And.intro ⟨by omega, by decide, _, rfl⟩ (zC.use du (fun y L2 μ2 hy => ?_))
  obtain ⟨rfl, rfl, σ1, τ1, rfl, S, -⟩ := hy
  refine zT.step ct_X7_shade_ok ?_
  refine And.intro ⟨by decide, _, rfl⟩ ?_
  refine zT.step ct_X7_shade_ok ?_
  refine zT.step ct_X7_shade_ok ?_
  refine lp n 0 (z_up σ1 50 33 (cDu a n t h i)) τ1 (by omega) (((SZ.up (Or.inr (Or.inl rfl))).trans S.sz).trans (SZ.up (Or.inr (Or.inr rfl)))) ?_ ?_ ?_
  · rw [zu_k _ _ _ _ _ (by decide), S.2 27 (by omega), zu_k _ _ _ _ _ (by decide)]; exact ha
  · rw [zu_k _ _ _ _ _ (by decide), S.2 32 (by omega), z_up_s]; rfl
  · rw [z_up_s]; rfl
theorem t_send {X : zXs} {d n t m : Nat} {a σ : zSg} {τ : Nat → Nat → Int64} {r : Option Nat} {y z : Int32} (hd : 57 ≤ d) (hE : RE a σ n t m) (ha : σ 50 27 = -1) : zC X d 0 0 m_X7_send [.ref 50, .int y, .int z] L0 (mm σ τ r) (tA σ r (v_send a n t y z)) := by
  have h8 := hE.1.1
  have bad : (rg y 13 && rg z 2) = false → zT X d m_X7_send (tA σ r (v_send a n t y z)) 0 0 17 [some (.ref 50), some (.int y), some (.int z), none, none, none] [] L0 (mm σ τ r) := by
    intro e
    unfold v_send
    rw [e]
    refine zT.step ct_X7_send_ok ?_
    refine zT.step ct_X7_send_ok ?_
    exact And.intro rfl (And.intro rfl ⟨σ, τ, rfl, SQ.rf⟩)
  refine zC.of mk_X7_send rfl ?_
  refine zT.step ct_X7_send_ok ?_
  refine zT.step ct_X7_send_ok ?_
  refine And.intro (by omega) (zF.use (t_isHour (by omega)) ?_)
  refine zT.step ct_X7_send_ok ?_
  refine And.intro (fun q => bad (by rw [fb0 q]; rfl)) (fun q2 => ?_)
  have q2 := fb1 q2
  refine zT.step ct_X7_send_ok ?_
  refine zT.step ct_X7_send_ok ?_
  refine zT.step ct_X7_send_ok ?_
  refine zT.step ct_X7_send_ok ?_
  refine zT.step ct_X7_send_ok ?_
  refine And.intro (by omega) (zF.use (t_inR (m := 1) (by decide) rfl) ?_)
  refine zT.step ct_X7_send_ok ?_
  refine And.intro (fun q => bad (by rw [fb0 q, Bool.and_false])) (fun q3 => ?_)
  have q3 := fb1 q3
  obtain ⟨ey, hy⟩ := rg_f (by decide) q2
  unfold v_send
  rw [q2, q3]
  generalize y.toNatClampNeg = h at ey hy ⊢
  subst ey
  obtain ⟨Q, hQ⟩ : ∃ Q : zRQ, Q = tA σ r (bif true && true then (if z = 0 then (cSend a n t h n).1 else (cSend a n t h n).2) else -2) := ⟨_, rfl⟩
  rw [← hQ]
  have lp : ∀ (m' k : Nat) (σ1 : zSg) (τ1 : Nat → Nat → Int64), k + m' = n → SZ σ σ1 → σ1 50 27 = -1 → σ1 50 32 = (cSend a n t h k).1 → σ1 50 33 = (cSend a n t h k).2 → zT X d m_X7_send Q 0 0 32 [some (.ref 50), some (.int (nI h)), some (.int z), some (.int (nI k)), none, none] [] L0 (mm σ1 τ1 r) := by
    intro m'
    induction m' with
    | zero =>
      intro k σ1 τ1 hk S g27 g32 g33
      have hk : k = n := by omega
      subst hk
      have mny : σ1 50 11 = nI k := (S.2 11 (by omega)).trans hE.1.2.1
      refine zT.step ct_X7_send_ok ?_
      refine zT.step ct_X7_send_ok ?_
      refine zT.step ct_X7_send_ok ?_
      refine And.intro ⟨by decide, _, rfl⟩ ?_
      refine zT.step ct_X7_send_ok ?_
      refine And.intro (fun _ => ?_) (fun q => ?_)
      case refine_2 =>
        have q : ¬ σ1 50 11 ≤ nI k := q
        rw [mny] at q
        exact absurd (nI_le (Nat.le_refl k) (by omega)) q
      refine zT.step ct_X7_send_ok ?_
      refine zT.step ct_X7_send_ok ?_
      refine And.intro (fun q => ?_) (fun q => ?_)
      · have q : z = 0 := q
        refine zT.step ct_X7_send_ok ?_
        refine zT.step ct_X7_send_ok ?_
        refine And.intro ⟨by decide, _, rfl⟩ ?_
        refine zT.step ct_X7_send_ok ?_
        refine zT.step ct_X7_send_ok ?_
        rw [hQ]
        exact And.intro (by rw [if_pos q]; exact congrArg (fun v => some (Value.int v)) g32) (And.intro rfl ⟨σ1, τ1, rfl, S, by rw [g27, ha]⟩)
      · have q : ¬ z = 0 := q
        refine zT.step ct_X7_send_ok ?_
        refine zT.step ct_X7_send_ok ?_
        refine And.intro ⟨by decide, _, rfl⟩ ?_
        refine zT.step ct_X7_send_ok ?_
        rw [hQ]
        exact And.intro (by rw [if_neg q]; exact congrArg (fun v => some (Value.int v)) g33) (And.intro rfl ⟨σ1, τ1, rfl, S, by rw [g27, ha]⟩)
    | succ m' ih =>
      intro k σ1 τ1 hk S g27 g32 g33
      have mny : σ1 50 11 = nI n := (S.2 11 (by omega)).trans hE.1.2.1
      have ec : cSend a n t h (k + 1) = if cSd a n t h k ≤ (cSend a n t h k).2 then cSend a n t h k else (nI k, cSd a n t h k) := rfl
      refine zT.step ct_X7_send_ok ?_
      refine zT.step ct_X7_send_ok ?_
      refine zT.step ct_X7_send_ok ?_
      refine And.intro ⟨by decide, _, rfl⟩ ?_
      refine zT.step ct_X7_send_ok ?_
      refine And.intro (fun q => ?_) (fun _ => ?_)
      · have q : σ1 50 11 ≤ nI k := q
        rw [mny] at q
        exact absurd q (nI_ge (show k < n by omega) (by omega))
      refine zT.step ct_X7_send_ok ?_
      refine zT.step ct_X7_send_ok ?_
      refine zT.step ct_X7_send_ok ?_
      refine And.intro ⟨by omega, by decide, _, rfl⟩ (zC.use (t_takesAll1 (by omega) (hE.sz S) hy g27) (fun y L2 μ2 hy => ?_))
      obtain ⟨rfl, rfl, σ2, τ2, rfl, S2, G2⟩ := hy
      have dk : σ2 58 k = cDu a n t h k := (G2.due h8 (by omega)).trans (du_eq (by omega))
      refine zT.step ct_X7_send_ok ?_
      refine zT.step ct_X7_send_ok ?_
      refine And.intro ⟨by decide, _, rfl⟩ ?_
      refine zT.step ct_X7_send_ok ?_
      refine zT.step ct_X7_send_ok ?_
      refine Exists.intro k (And.intro ⟨rfl, by decide, 8, rfl, by omega, by decide⟩ ?_)
      show zT X d m_X7_send _ 0 0 51 _ [.int (σ2 58 k), .int (cAl a n t h)] _ _
      rw [dk]
      refine zT.step ct_X7_send_ok ?_
      refine zT.step ct_X7_send_ok ?_
      refine zT.step ct_X7_send_ok ?_
      refine zT.step ct_X7_send_ok ?_
      refine zT.step ct_X7_send_ok ?_
      refine And.intro ⟨by decide, _, rfl⟩ ?_
      have S3 : SZ σ (z_up σ2 50 27 (nI k)) := (S.trans S2.sz).trans (SZ.up (Or.inl rfl))
      have ta := t_takesAll (X := X) (d := d - 1) (τ := τ2) (r := r) (by omega) (hE.sz S3) hy (z_up_s _ _ _ _)
      have ew : sumN (dA a n t h (nI k)) n = f_all (cWo a n t h k) (cD a t h) n := by
        rw [f_all_s]
        exact sumN_c n (fun i hi => (wo_eq2 h8 (by omega) hi).symm)
      rw [ew] at ta
      refine zT.eqm (μ' := mm (z_up σ2 50 27 (nI k)) τ2 r) rfl ?_
      refine zT.step ct_X7_send_ok ?_
      refine zT.step ct_X7_send_ok ?_
      refine zT.step ct_X7_send_ok ?_
      refine zT.step ct_X7_send_ok ?_
      refine And.intro ⟨by omega, by decide, _, rfl⟩ (zC.use ta (fun y L2 μ2 hy => ?_))
      obtain ⟨rfl, rfl, σ3, τ3, rfl, S4, -⟩ := hy
      have S5 : SZ σ (z_up σ3 50 27 (-1)) := (S3.trans S4.sz).trans (SZ.up (Or.inl rfl))
      have k27 : z_up σ3 50 27 (-1) 50 27 = -1 := z_up_s _ _ _ _
      have k32 : z_up σ3 50 27 (-1) 50 32 = (cSend a n t h k).1 := by rw [zu_k _ _ _ _ _ (by decide), S4.2 32 (by omega), zu_k _ _ _ _ _ (by decide), S2.2 32 (by omega)]; exact g32
      have k33 : z_up σ3 50 27 (-1) 50 33 = (cSend a n t h k).2 := by rw [zu_k _ _ _ _ _ (by decide), S4.2 33 (by omega), zu_k _ _ _ _ _ (by decide), S2.2 33 (by omega)]; exact g33
      refine zT.step ct_X7_send_ok ?_
      refine zT.step ct_X7_send_ok ?_
      refine zT.step ct_X7_send_ok ?_
      refine zT.step ct_X7_send_ok ?_
      refine zT.step ct_X7_send_ok ?_
      refine And.intro ⟨by decide, _, rfl⟩ ?_
      refine zT.eqm (μ' := mm (z_up σ3 50 27 (-1)) τ3 r) rfl ?_
      generalize z_up σ3 50 27 (-1) = σ4 at S5 k27 k32 k33
      show zT X d m_X7_send Q 0 0 74 [some (.ref 50), some (.int (nI h)), some (.int z), some (.int (nI k)), some (.int (cAl a n t h - cDu a n t h k)), some (.int (cSd a n t h k))] [] L0 (mm σ4 τ3 r)
      refine zT.step ct_X7_send_ok ?_
      refine zT.step ct_X7_send_ok ?_
      refine zT.step ct_X7_send_ok ?_
      refine And.intro ⟨by decide, _, rfl⟩ ?_
      refine zT.step ct_X7_send_ok ?_
      refine And.intro (fun q => ?_) (fun q => ?_)
      · have q : cSd a n t h k ≤ σ4 50 33 := q
        rw [k33] at q
        rw [if_pos q] at ec
        refine zT.step ct_X7_send_ok ?_
        refine zT.step ct_X7_send_ok ?_
        refine zT.drop 4 (zT.drop 5 ?_)
        rw [nI_1]
        exact ih (k + 1) σ4 τ3 (by omega) S5 k27 (by rw [ec]; exact k32) (by rw [ec]; exact k33)
      · have q : ¬ cSd a n t h k ≤ σ4 50 33 := q
        rw [k33] at q
        rw [if_neg q] at ec
        refine zT.step ct_X7_send_ok ?_
        refine zT.step ct_X7_send_ok ?_
        refine zT.step ct_X7_send_ok ?_
        refine And.intro ⟨by decide, _, rfl⟩ ?_
        refine zT.step ct_X7_send_ok ?_
        refine zT.step ct_X7_send_ok ?_
        refine zT.step ct_X7_send_ok ?_
        refine And.intro ⟨by decide, _, rfl⟩ ?_
        refine zT.step ct_X7_send_ok ?_
        refine zT.step ct_X7_send_ok ?_
        refine zT.drop 4 (zT.drop 5 ?_)
        rw [nI_1]
        refine ih (k + 1) (z_up (z_up σ4 50 32 (nI k)) 50 33 (cSd a n t h k)) τ3 (by omega) ((S5.trans (SZ.up (Or.inr (Or.inl rfl)))).trans (SZ.up (Or.inr (Or.inr rfl)))) ?_ ?_ ?_
        · rw [zu_k _ _ _ _ _ (by decide), zu_k _ _ _ _ _ (by decide)]; exact k27
        · rw [zu_k _ _ _ _ _ (by decide), z_up_s, ec]
        · rw [z_up_s, ec]
  refine zT.step ct_X7_send_ok ?_
  refine zT.step ct_X7_send_ok ?_
  refine zT.step ct_X7_send_ok ?_
  refine And.intro ⟨by decide, _, rfl⟩ ?_
  refine zT.step ct_X7_send_ok ?_
  refine zT.step ct_X7_send_ok ?_
  refine zT.step ct_X7_send_ok ?_
  refine And.intro ⟨by decide, _, rfl⟩ ?_
  refine zT.step ct_X7_send_ok ?_
  refine zT.step ct_X7_send_ok ?_
  refine lp n 0 (z_up (z_up σ 50 32 (-1)) 50 33 0) τ (by omega) ((SZ.up (Or.inr (Or.inl rfl))).trans (SZ.up (Or.inr (Or.inr rfl)))) ?_ ?_ ?_
  · rw [zu_k _ _ _ _ _ (by decide), zu_k _ _ _ _ _ (by decide)]; exact ha
  · rw [zu_k _ _ _ _ _ (by decide), z_up_s]; rfl
  · rw [z_up_s]; rfl
