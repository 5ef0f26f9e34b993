/-! a text of the class and one of the reference: the same values -/
theorem lx_sk_c {f f' : Nat → Int32} {sz : Nat} (h : ∀ i, i < sz → f i = f' i) : ∀ (m p : Nat), p + m ≤ sz → lx_sk f m p = lx_sk f' m p := by
  intro m
  induction m with
  | zero => intro p _; rfl
  | succ m ih =>
    intro p hp
    unfold lx_sk
    rw [h p (by omega), ih (p + 1) (by omega)]
theorem lx_w_c {c : Int32 → Bool} {f f' : Nat → Int32} {sz : Nat} (h : ∀ i, i < sz → f i = f' i) : ∀ (m p : Nat), p + m ≤ sz → lx_w c f m p = lx_w c f' m p := by
  intro m
  induction m with
  | zero => intro p _; rfl
  | succ m ih =>
    intro p hp
    unfold lx_w
    rw [h p (by omega), ih (p + 1) (by omega)]
theorem lx_num_c {f f' : Nat → Int32} {sz : Nat} (h : ∀ i, i < sz → f i = f' i) : ∀ (m p : Nat) (a : Int32), p + m ≤ sz → lx_num f m p a = lx_num f' m p a := by
  intro m
  induction m with
  | zero => intro p a _; rfl
  | succ m ih =>
    intro p a hp
    unfold lx_num
    rw [h p (by omega), ih (p + 1) _ (by omega)]
theorem lx_eq_c {f f' : Nat → Int32} {sz : Nat} (h : ∀ i, i < sz → f i = f' i) : ∀ (w : List Int32) (b : Nat), b + w.length ≤ sz → lx_eq f w b = lx_eq f' w b := by
  intro w
  induction w with
  | nil => intro b _; rfl
  | cons x w ih =>
    intro b hb
    have hb : b + (w.length + 1) ≤ sz := hb
    show (decide (x = f b) && lx_eq f w (b + 1)) = (decide (x = f' b) && lx_eq f' w (b + 1))
    rw [h b (by omega), ih (b + 1) (by omega)]
theorem lx_is_c {f f' : Nat → Int32} {sz b e i : Nat} (h : ∀ i, i < sz → f i = f' i) (he : e ≤ sz) (hbe : b ≤ e) (hi : i < 12) : lx_is f i b e = lx_is f' i b e := by
  unfold lx_is
  by_cases hl : e - b = z_sl.getD i 0
  · rw [lx_eq_c h _ b (by rw [z_sb_l i hi]; omega)]
  · rw [decide_eq_false hl, Bool.false_and, Bool.false_and]
theorem lx_b_c {f f' : Nat → Int32} {sz : Nat} (h : ∀ i, i < sz → f i = f' i) : lx_b f sz = lx_b f' sz := by
  funext p
  unfold lx_b
  rcases Nat.lt_or_ge sz p with q | q
  · rw [show sz - p = 0 by omega]; rfl
  · exact lx_sk_c h _ p (by omega)
theorem lx_e0_c {f f' : Nat → Int32} {sz : Nat} (h : ∀ i, i < sz → f i = f' i) (b : Nat) : lx_e0 f sz b = lx_e0 f' sz b := by
  unfold lx_e0
  by_cases q : sz ≤ b
  · rw [if_pos q, if_pos q]
  · rw [if_neg q, if_neg q, h b (by omega), lx_w_c h _ b (by omega), lx_w_c h _ b (by omega)]
theorem lx_e_c {f f' : Nat → Int32} {sz : Nat} (h : ∀ i, i < sz → f i = f' i) : lx_e f sz = lx_e f' sz := by
  funext p
  unfold lx_e
  rw [lx_b_c h, lx_e0_c h]
theorem lx_wd_c {f f' : Nat → Int32} {sz b e : Nat} (h : ∀ i, i < sz → f i = f' i) (he : e ≤ sz) (hbe : b ≤ e) : lx_wd f b e = lx_wd f' b e := by
  unfold lx_wd
  rw [lx_is_c h he hbe (i := 0) (by decide), lx_is_c h he hbe (i := 1) (by decide), lx_is_c h he hbe (i := 2) (by decide), lx_is_c h he hbe (i := 3) (by decide), lx_is_c h he hbe (i := 4) (by decide), lx_is_c h he hbe (i := 5) (by decide), lx_is_c h he hbe (i := 6) (by decide), lx_is_c h he hbe (i := 7) (by decide), lx_is_c h he hbe (i := 8) (by decide), lx_is_c h he hbe (i := 9) (by decide), lx_is_c h he hbe (i := 10) (by decide), lx_is_c h he hbe (i := 11) (by decide)]
theorem lx_t_c {f f' : Nat → Int32} {sz : Nat} (h : ∀ i, i < sz → f i = f' i) : lx_t f sz = lx_t f' sz := by
  funext p
  unfold lx_t
  rw [lx_b_c h]
  generalize lx_b f' sz p = b
  unfold lx_t0
  by_cases q : sz ≤ b
  · rw [if_pos q, if_pos q]
  · have hw := lx_w_le isL f' (sz - b) b
    rw [if_neg q, if_neg q, h b (by omega), lx_w_c h _ b (by omega), lx_w_c h _ b (by omega), lx_num_c h _ b _ (by omega), lx_wd_c h (by omega) hw.1]
theorem ps_t_c {f f' : Nat → Int32} {sz : Nat} (h : ∀ i, i < sz → f i = f' i) : ps_t f sz = ps_t f' sz := by
  funext s
  unfold ps_t
  rw [lx_t_c h]
theorem ps_a_c {f f' : Nat → Int32} {sz : Nat} (h : ∀ i, i < sz → f i = f' i) : ps_a f sz = ps_a f' sz := by
  funext s
  unfold ps_a
  rw [lx_e_c h]
theorem ps_x_c {f f' : Nat → Int32} {sz : Nat} (h : ∀ i, i < sz → f i = f' i) (due : Int32) : ps_x f sz due = ps_x f' sz due := by
  funext s
  unfold ps_x
  rw [ps_t_c h, ps_a_c h]
theorem pr_beh_c {f f' : Nat → Int32} {sz : Nat} (h : ∀ i, i < sz → f i = f' i) (D : Option (Nat → PT)) (st : Int32) (l : Nat) : pr_beh f sz D st l = pr_beh f' sz D st l := by
  funext s
  unfold pr_beh
  rw [ps_a_c h]
theorem pr_one_c {f f' : Nat → Int32} {sz : Nat} (h : ∀ i, i < sz → f i = f' i) (D : Option (Nat → PT)) : pr_one f sz D = pr_one f' sz D := by
  funext s
  unfold pr_one
  rw [ps_t_c h, ps_a_c h, pr_beh_c h, ps_x_c h]
theorem pr_lp_c {f f' : Nat → Int32} {sz : Nat} (h : ∀ i, i < sz → f i = f' i) (l : Int32) (g : PT) : ∀ m, pr_lp f sz l g m = pr_lp f' sz l g m := by
  intro m
  induction m with
  | zero => rfl
  | succ m ih =>
    funext s
    unfold pr_lp
    rw [ps_t_c h, ps_a_c h, ih]
theorem pr_lv_c {f f' : Nat → Int32} {sz : Nat} (h : ∀ i, i < sz → f i = f' i) (m : Nat) (l : Int32) (g : PT) : pr_lv f sz m l g = pr_lv f' sz m l g := by
  funext s
  unfold pr_lv
  rw [pr_lp_c h]
theorem pr_L_c {f f' : Nat → Int32} {sz : Nat} (h : ∀ i, i < sz → f i = f' i) (D : Option (Nat → PT)) : pr_L f sz D = pr_L f' sz D := by
  have h4 : pr_4 f sz D = pr_4 f' sz D := by unfold pr_4; rw [pr_lv_c h, pr_one_c h]
  have h3 : pr_3 f sz D = pr_3 f' sz D := by unfold pr_3; rw [pr_lv_c h, h4]
  have h2 : pr_2 f sz D = pr_2 f' sz D := by funext s; unfold pr_2; rw [pr_lv_c h, h3, ps_t_c h, pr_beh_c h]
  have h1 : pr_1 f sz D = pr_1 f' sz D := by unfold pr_1; rw [pr_lv_c h, h2]
  have h0 : pr_0 f sz D = pr_0 f' sz D := by unfold pr_0; rw [pr_lv_c h, h1]
  funext l
  unfold pr_L
  rw [h0, h1, h2, h3, h4, pr_one_c h]
theorem pr_D_c {f f' : Nat → Int32} {sz : Nat} (h : ∀ i, i < sz → f i = f' i) : ∀ k, pr_D f sz k = pr_D f' sz k := by
  intro k
  induction k with
  | zero => rfl
  | succ k ih => unfold pr_D; rw [ih, pr_L_c h]
theorem pr_E_c {f f' : Nat → Int32} {sz : Nat} (h : ∀ i, i < sz → f i = f' i) : pr_E f sz = pr_E f' sz := by
  unfold pr_E
  rw [pr_D_c h, pr_L_c h]
theorem pr_part_c {f f' : Nat → Int32} {sz : Nat} {g : PT} (h : ∀ i, i < sz → f i = f' i) (key : Int32) : pr_part g f sz key = pr_part g f' sz key := by
  funext s
  unfold pr_part
  rw [ps_x_c h, ps_x_c h]
theorem tx_s_c {f f' : Nat → Int32} {sz : Nat} {g : PT} (h : ∀ i, i < sz → f i = f' i) : tx_0 g f sz = tx_0 g f' sz ∧ tx_1 g f sz = tx_1 g f' sz ∧ tx_2 g f sz = tx_2 g f' sz ∧ tx_s g f sz = tx_s g f' sz := by
  have h0 : tx_0 g f sz = tx_0 g f' sz := by unfold tx_0; rw [pr_part_c h]
  have h1 : tx_1 g f sz = tx_1 g f' sz := by unfold tx_1; rw [pr_part_c h, h0]
  have h2 : tx_2 g f sz = tx_2 g f' sz := by unfold tx_2; rw [pr_part_c h, h1]
  exact ⟨h0, h1, h2, by unfold tx_s; rw [ps_x_c h, h2]⟩
/-! the class's stack -/
def rep (F : Nat → Int32) : List Int32 → Prop
  | [] => True
  | x :: l => F l.length = x ∧ rep F l
theorem rep_upd {F : Nat → Int32} {v : Int32} : ∀ (l : List Int32) (n : Nat), l.length ≤ n → rep F l → rep (upd F n v) l := by
  intro l
  induction l with
  | nil => intro n _ _; exact trivial
  | cons x l ih =>
    intro n hn h
    have hn : l.length + 1 ≤ n := hn
    refine ⟨?_, ih n (by omega) h.2⟩
    unfold upd
    rw [if_neg (by omega)]
    exact h.1
theorem rep_step {env : Nat → Int32} {s : Int32} {F : Nat → Int32} {st : List Int32} (h : rep F st) (hl : st.length < 160) : (r_step env s (F, st.length)).2 = (ex1 env s st).length ∧ rep (r_step env s (F, st.length)).1 (ex1 env s st) := by
  unfold r_step ex1
  by_cases h1 : s < -6
  · rw [if_pos h1, if_pos h1]
    by_cases h2 : s = -18 ∨ s = -19
    · rw [if_pos h2, if_pos h2]
      cases st with
      | nil => exact ⟨rfl, trivial⟩
      | cons a l =>
        have e : F l.length = a := h.1
        dsimp only
        rw [if_pos (show 1 ≤ (a :: l).length from Nat.succ_pos _)]
        refine ⟨rfl, ?_, ?_⟩
        · show upd F l.length (f_al s (F l.length)) l.length = _
          rw [upd_at, e]
        · exact rep_upd l _ (Nat.le_refl _) h.2
    · rw [if_neg h2, if_neg h2]
      cases st with
      | nil => exact ⟨rfl, trivial⟩
      | cons b l =>
        cases l with
        | nil => exact ⟨rfl, h⟩
        | cons a l =>
          have e1 : F (l.length + 1) = b := h.1
          have e2 : F l.length = a := h.2.1
          dsimp only
          rw [if_pos (show 2 ≤ (b :: a :: l).length from Nat.le_add_left 2 l.length)]
          refine ⟨rfl, ?_, ?_⟩
          · show upd F l.length (f_jo s (F l.length) (F (l.length + 1))) l.length = _
            rw [upd_at, e1, e2]
          · exact rep_upd l _ (Nat.le_refl _) h.2.2
  · rw [if_neg h1, if_neg h1]
    dsimp only
    rw [if_pos hl]
    exact ⟨rfl, upd_at _ _ _, rep_upd st _ (Nat.le_refl _) h⟩
theorem ex1_len (env : Nat → Int32) (s : Int32) (st : List Int32) : (ex1 env s st).length ≤ st.length + 1 := by
  unfold ex1
  by_cases h1 : s < -6
  · rw [if_pos h1]
    by_cases h2 : s = -18 ∨ s = -19
    · rw [if_pos h2]
      cases st with
      | nil => exact Nat.le_succ _
      | cons a l => exact Nat.le_succ _
    · rw [if_neg h2]
      cases st with
      | nil => exact Nat.le_succ _
      | cons b l =>
        cases l with
        | nil => exact Nat.le_succ _
        | cons a l => show l.length + 1 ≤ l.length + 1 + 1 + 1; omega
  · rw [if_neg h1]
    exact Nat.le_refl _
theorem rep_run {env steps : Nat → Int32} : ∀ (c : List Int32) (k : Nat) (F : Nat → Int32) (st : List Int32), (∀ j, j < c.length → steps (k + j) = c.getD j 0) → rep F st → st.length + c.length ≤ 160 → (r_run env steps c.length k (F, st.length)).2 = (exL env c st).length ∧ rep (r_run env steps c.length k (F, st.length)).1 (exL env c st) := by
  intro c
  induction c with
  | nil => intro k F st _ h _; exact ⟨rfl, h⟩
  | cons s c ih =>
    intro k F st hs h hl
    have hl : st.length + (c.length + 1) ≤ 160 := hl
    have e : steps k = s := hs 0 (Nat.succ_pos _)
    obtain ⟨h1, h2⟩ := rep_step (env := env) (s := s) h (by omega)
    have hx := ex1_len env s st
    show (r_run env steps c.length (k + 1) (r_step env (steps k) (F, st.length))).2 = (exL env c (ex1 env s st)).length ∧ rep (r_run env steps c.length (k + 1) (r_step env (steps k) (F, st.length))).1 (exL env c (ex1 env s st))
    rw [e]
    generalize r_step env s (F, st.length) = p at h1 h2
    obtain ⟨F', n'⟩ := p
    have h1 : n' = (ex1 env s st).length := h1
    subst h1
    refine ih (k + 1) F' (ex1 env s st) (fun j hj => ?_) h2 (by omega)
    have := hs (j + 1) (by show j + 1 < c.length + 1; omega)
    rw [show k + 1 + j = k + (j + 1) by omega]
    exact this
/-- text t of the class's memory a is that of the reference's memory σ -/
def TX (a σ : zSg) (t : Nat) : Prop := ∃ sz g, RT σ t sz ∧ g = pr_E (tB σ t) sz ∧ (tx_s g (tB σ t) sz).2 = false ∧ (∀ j, j < (tx_c g (tB σ t) sz).length → a (17 + 3 * t) j = (tx_c g (tB σ t) sz).getD j 0) ∧ a (18 + 3 * t) 0 = nI (tx_0 g (tB σ t) sz).2.length ∧ a (18 + 3 * t) 1 = nI ((tx_0 g (tB σ t) sz).2 ++ (tx_1 g (tB σ t) sz).2).length ∧ a (18 + 3 * t) 2 = nI (tx_c g (tB σ t) sz).length
theorem getD_l {c d : List Int32} {j : Nat} (h : j < c.length) : (c ++ d).getD j 0 = c.getD j 0 := by
  rw [List.getD_eq_getElem?_getD, List.getD_eq_getElem?_getD, List.getElem?_append_left h]
theorem getD_r {c d : List Int32} {j : Nat} : (c ++ d).getD (c.length + j) 0 = d.getD j 0 := by
  rw [List.getD_eq_getElem?_getD, List.getD_eq_getElem?_getD, List.getElem?_append_right (Nat.le_add_right _ _), Nat.add_sub_cancel_left]
theorem TX.len {a σ : zSg} {t : Nat} (h : TX a σ t) : RW a t := by
  obtain ⟨sz, g, hT, hg, h1, h2, h3, h4, h5⟩ := h
  have hP : PK sz g := by rw [hg]; exact PK.E
  generalize tB σ t = f at *
  have y0 := PK.part hP (show tx_0 g f sz = _ from rfl) (Nat.zero_le _)
  have y1 := PK.part hP (show tx_1 g f sz = _ from rfl) y0.2
  have y2 := PK.part hP (show tx_2 g f sz = _ from rfl) y1.2
  have hsz := hT.2.2.1
  unfold tx_c at h5
  generalize tx_0 g f sz = z0 at *
  generalize tx_1 g f sz = z1 at *
  generalize tx_2 g f sz = z2 at *
  dsimp only at y0
  intro q hq
  rw [List.length_append] at h4
  rw [List.length_append, List.length_append] at h5
  match q, hq with
  | 0, _ => exact ⟨_, by omega, h3⟩
  | 1, _ => exact ⟨_, by omega, h4⟩
  | 2, _ => exact ⟨_, by omega, h5⟩
theorem tv_of {steps ends env : Nat → Int32} {q n m : Nat} {c : List Int32} {v : Int32} (hn : tvE ends q = n) (hm : (ends q).toNatClampNeg = m) (hc : m - n = c.length) (hs : ∀ j, j < c.length → steps (n + j) = c.getD j 0) (hl : c.length ≤ 160) (hx : ∀ st, exL env c st = v :: st) : tvR steps ends q env = v := by
  unfold tvR
  rw [hn, hm, hc]
  obtain ⟨h1, h2⟩ := rep_run (env := env) (steps := steps) c n (fun _ => 0) [] hs trivial (by show 0 + c.length ≤ 160; omega)
  rw [hx []] at h1 h2
  unfold r_top
  rw [if_pos (by show 0 < (r_run env steps c.length n ((fun _ => 0), ([] : List Int32).length)).2; rw [h1]; exact Nat.one_pos)]
  exact h2.1
theorem TX.val {a σ : zSg} {t : Nat} (h : TX a σ t) : ∃ sz g, RT σ t sz ∧ g = pr_E (tB σ t) sz ∧ (tx_s g (tB σ t) sz).2 = false ∧ ∀ (w : Nat) (env : Nat → Int32) (v : Int32), w < 3 → (∀ st, exL env (tx_w g (tB σ t) sz w) st = v :: st) → tvC a t w env = v := by
  obtain ⟨sz, g, hT, hg, h1, h2, h3, h4, h5⟩ := h
  refine ⟨sz, g, hT, hg, h1, fun w env v hw hx => ?_⟩
  have hP : PK sz g := by rw [hg]; exact PK.E
  generalize tB σ t = f at *
  have y0 := PK.part hP (show tx_0 g f sz = _ from rfl) (Nat.zero_le _)
  have y1 := PK.part hP (show tx_1 g f sz = _ from rfl) y0.2
  have y2 := PK.part hP (show tx_2 g f sz = _ from rfl) y1.2
  have hsz := hT.2.2.1
  unfold tx_c at h2 h5
  unfold tx_w at hx
  generalize tx_0 g f sz = z0 at *
  generalize tx_1 g f sz = z1 at *
  generalize tx_2 g f sz = z2 at *
  dsimp only at y0
  have l1 : (z0.2 ++ z1.2).length = z0.2.length + z1.2.length := List.length_append
  have l2 : (z0.2 ++ z1.2 ++ z2.2).length = z0.2.length + z1.2.length + z2.2.length := by rw [List.length_append, l1]
  have c0 : (a (18 + 3 * t) 0).toNatClampNeg = z0.2.length := by rw [h3, nI_clamp (by omega)]
  have c1 : (a (18 + 3 * t) 1).toNatClampNeg = (z0.2 ++ z1.2).length := by rw [h4, nI_clamp (by omega)]
  have c2 : (a (18 + 3 * t) 2).toNatClampNeg = (z0.2 ++ z1.2 ++ z2.2).length := by rw [h5, nI_clamp (by omega)]
  match w, hw with
  | 0, _ =>
    refine tv_of (n := 0) (m := z0.2.length) (c := z0.2) rfl c0 (by omega) (fun j hj => ?_) (by omega) hx
    rw [Nat.zero_add, h2 j (by omega), List.append_assoc, getD_l hj]
  | 1, _ =>
    refine tv_of (n := z0.2.length) (m := (z0.2 ++ z1.2).length) (c := z1.2) c0 c1 (by omega) (fun j hj => ?_) (by omega) hx
    rw [h2 _ (by omega), List.append_assoc, getD_r, getD_l hj]
  | 2, _ =>
    refine tv_of (n := (z0.2 ++ z1.2).length) (m := (z0.2 ++ z1.2 ++ z2.2).length) (c := z2.2) c1 c2 (by omega) (fun j hj => ?_) (by omega) hx
    rw [h2 _ (by omega), getD_r]
