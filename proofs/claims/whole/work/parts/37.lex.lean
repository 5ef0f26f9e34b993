/-! the tokens of a text: pure words. f: its bytes, sz: how many; p: where it goes on -/
def isL (x : Int32) : Bool := decide (97 ≤ x ∧ x ≤ 122)
def isD (x : Int32) : Bool := decide (48 ≤ x ∧ x ≤ 57)
def lx_sk (f : Nat → Int32) : Nat → Nat → Nat
  | 0, p => p
  | m + 1, p => if f p = 32 ∨ f p = 10 then lx_sk f m (p + 1) else p
def lx_w (c : Int32 → Bool) (f : Nat → Int32) : Nat → Nat → Nat
  | 0, p => p
  | m + 1, p => bif c (f p) then lx_w c f m (p + 1) else p
def lx_num (f : Nat → Int32) : Nat → Nat → Int32 → Int32
  | 0, _, a => a
  | m + 1, p, a => bif isD (f p) then lx_num f m (p + 1) (a * 10 + f p - 48) else a
def lx_eq (f : Nat → Int32) : List Int32 → Nat → Bool
  | [], _ => true
  | x :: w, b => decide (x = f b) && lx_eq f w (b + 1)
def lx_is (f : Nat → Int32) (i b e : Nat) : Bool := decide (e - b = z_sl.getD i 0) && lx_eq f (z_sb.getD i []) b
def lx_wd (f : Nat → Int32) (b e : Nat) : Int32 :=
  bif lx_is f 0 b e then -1 else bif lx_is f 1 b e then -2 else bif lx_is f 2 b e then -3 else bif lx_is f 3 b e then -4 else bif lx_is f 4 b e then -5 else bif lx_is f 5 b e then -6 else bif lx_is f 6 b e then -23 else bif lx_is f 7 b e then -24 else bif lx_is f 8 b e then -25 else bif lx_is f 9 b e then -11 else bif lx_is f 10 b e then -12 else bif lx_is f 11 b e then -18 else -31
def lx_sg (x : Int32) : Int32 := if x = 40 then -20 else if x = 41 then -21 else if x = 59 then -22 else if x = 43 then -15 else if x = 45 then -16 else if x = 42 then -17 else if x = 60 then -13 else if x = 61 then -14 else -31
def lx_b (f : Nat → Int32) (sz p : Nat) : Nat := lx_sk f (sz - p) p
def lx_e0 (f : Nat → Int32) (sz b : Nat) : Nat := if sz ≤ b then b else bif isL (f b) then lx_w isL f (sz - b) b else bif isD (f b) then lx_w isD f (sz - b) b else b + 1
def lx_t0 (f : Nat → Int32) (sz b : Nat) : Int32 := if sz ≤ b then -30 else bif isL (f b) then lx_wd f b (lx_w isL f (sz - b) b) else bif isD (f b) then (if 4 < lx_w isD f (sz - b) b - b then -31 else lx_num f (sz - b) b 0) else lx_sg (f b)
def lx_e (f : Nat → Int32) (sz p : Nat) : Nat := lx_e0 f sz (lx_b f sz p)
def lx_t (f : Nat → Int32) (sz p : Nat) : Int32 := lx_t0 f sz (lx_b f sz p)
theorem lx_sk_le (f : Nat → Int32) : ∀ (m p : Nat), p ≤ lx_sk f m p ∧ lx_sk f m p ≤ p + m := by
  intro m
  induction m with
  | zero => intro p; exact ⟨Nat.le_refl _, Nat.le_refl _⟩
  | succ m ih =>
    intro p
    unfold lx_sk
    split
    · have := ih (p + 1); omega
    · omega
theorem lx_w_le (c : Int32 → Bool) (f : Nat → Int32) : ∀ (m p : Nat), p ≤ lx_w c f m p ∧ lx_w c f m p ≤ p + m := by
  intro m
  induction m with
  | zero => intro p; exact ⟨Nat.le_refl _, Nat.le_refl _⟩
  | succ m ih =>
    intro p
    unfold lx_w
    cases c (f p) with
    | true => have := ih (p + 1); exact ⟨by show p ≤ lx_w c f m (p + 1); omega, by show lx_w c f m (p + 1) ≤ _; omega⟩
    | false => exact ⟨Nat.le_refl _, by show p ≤ _; omega⟩
theorem lx_b_le {f : Nat → Int32} {sz p : Nat} (h : p ≤ sz) : p ≤ lx_b f sz p ∧ lx_b f sz p ≤ sz := by
  have := lx_sk_le f (sz - p) p
  unfold lx_b
  omega
theorem lx_w_gt {c : Int32 → Bool} {f : Nat → Int32} {m p : Nat} (hm : 0 < m) (hc : c (f p) = true) : p < lx_w c f m p := by
  obtain ⟨k, rfl⟩ : ∃ k, m = k + 1 := ⟨m - 1, by omega⟩
  unfold lx_w
  rw [hc]
  have := lx_w_le c f k (p + 1)
  show p < lx_w c f k (p + 1)
  omega
theorem lx_e0_le {f : Nat → Int32} {sz b : Nat} (h : b ≤ sz) : b ≤ lx_e0 f sz b ∧ lx_e0 f sz b ≤ sz ∧ (b < sz → b < lx_e0 f sz b) := by
  unfold lx_e0
  by_cases h1 : sz ≤ b
  · rw [if_pos h1]; omega
  rw [if_neg h1]
  cases hl : isL (f b) with
  | true =>
    have := lx_w_le isL f (sz - b) b
    have h3 := lx_w_gt (c := isL) (f := f) (m := sz - b) (p := b) (by omega) hl
    refine ⟨by show b ≤ lx_w isL f (sz - b) b; omega, by show lx_w isL f (sz - b) b ≤ sz; omega, fun _ => h3⟩
  | false =>
    cases hd : isD (f b) with
    | true =>
      have := lx_w_le isD f (sz - b) b
      have h3 := lx_w_gt (c := isD) (f := f) (m := sz - b) (p := b) (by omega) hd
      refine ⟨by show b ≤ lx_w isD f (sz - b) b; omega, by show lx_w isD f (sz - b) b ≤ sz; omega, fun _ => h3⟩
    | false => exact ⟨by show b ≤ b + 1; omega, by show b + 1 ≤ sz; omega, fun _ => by show b < b + 1; omega⟩
theorem lx_e_le {f : Nat → Int32} {sz p : Nat} (h : p ≤ sz) : p ≤ lx_e f sz p ∧ lx_e f sz p ≤ sz ∧ lx_b f sz p ≤ lx_e f sz p := by
  have h1 := lx_b_le (f := f) h
  have h2 := lx_e0_le (f := f) h1.2
  unfold lx_e
  omega
theorem lx_t_end {f : Nat → Int32} {sz p : Nat} (h : p ≤ sz) (ht : lx_t f sz p ≠ -30) : lx_b f sz p < sz ∧ lx_b f sz p < lx_e f sz p := by
  have h1 := lx_b_le (f := f) h
  have h2 := lx_e0_le (f := f) h1.2
  have h3 : lx_b f sz p < sz := by
    rcases Nat.lt_or_ge (lx_b f sz p) sz with q | q
    · exact q
    · exact absurd (by unfold lx_t lx_t0; rw [if_pos q]) ht
  exact ⟨h3, h2.2.2 h3⟩
/-! the grammar: a state is (where the token at hand was looked for, whether there was a fault) -/
abbrev PS : Type := Nat × Bool
abbrev PT : Type := PS → PS × List Int32
def ps_t (f : Nat → Int32) (sz : Nat) (s : PS) : Int32 := bif s.2 then -31 else lx_t f sz s.1
def ps_a (f : Nat → Int32) (sz : Nat) (s : PS) : PS := (lx_e f sz s.1, s.2)
def ps_f (s : PS) : PS := (s.1, true)
def ps_x (f : Nat → Int32) (sz : Nat) (due : Int32) (s : PS) : PS := if ps_t f sz s = due then ps_a f sz s else ps_f s
def pr_lev (x : Int32) : Int32 := if x = -11 then 0 else if x = -12 then 1 else if x = -13 ∨ x = -14 then 2 else if x = -15 ∨ x = -16 then 3 else if x = -17 then 4 else -1
def pr_beh (f : Nat → Int32) (sz : Nat) (D : Option (Nat → PT)) (st : Int32) (l : Nat) : PT := fun s => match D with
  | none => (ps_f s, [])
  | some D => ((D l (ps_a f sz s)).1, (D l (ps_a f sz s)).2 ++ [st])
def pr_one (f : Nat → Int32) (sz : Nat) (D : Option (Nat → PT)) : PT := fun s =>
  if ps_t f sz s < -6 then (if ps_t f sz s = -16 then pr_beh f sz D (-19) 5 s else match D with
    | some D => if ps_t f sz s = -20 then (ps_x f sz (-21) (D 0 (ps_a f sz s)).1, (D 0 (ps_a f sz s)).2) else (ps_f s, [])
    | none => (ps_f s, []))
  else (ps_a f sz s, [ps_t f sz s])
def pr_lp (f : Nat → Int32) (sz : Nat) (l : Int32) (sub : PT) : Nat → PT
  | 0 => fun s => (s, [])
  | m + 1 => fun s => if pr_lev (ps_t f sz s) = l then ((pr_lp f sz l sub m (sub (ps_a f sz s)).1).1, (sub (ps_a f sz s)).2 ++ ps_t f sz s :: (pr_lp f sz l sub m (sub (ps_a f sz s)).1).2) else (s, [])
def pr_lv (f : Nat → Int32) (sz m : Nat) (l : Int32) (sub : PT) : PT := fun s => ((pr_lp f sz l sub m (sub s).1).1, (sub s).2 ++ (pr_lp f sz l sub m (sub s).1).2)
def pr_4 (f : Nat → Int32) (sz : Nat) (D : Option (Nat → PT)) : PT := pr_lv f sz 160 4 (pr_one f sz D)
def pr_3 (f : Nat → Int32) (sz : Nat) (D : Option (Nat → PT)) : PT := pr_lv f sz 160 3 (pr_4 f sz D)
def pr_2 (f : Nat → Int32) (sz : Nat) (D : Option (Nat → PT)) : PT := fun s => if ps_t f sz s = -18 then pr_beh f sz D (-18) 2 s else pr_lv f sz 1 2 (pr_3 f sz D) s
def pr_1 (f : Nat → Int32) (sz : Nat) (D : Option (Nat → PT)) : PT := pr_lv f sz 160 1 (pr_2 f sz D)
def pr_0 (f : Nat → Int32) (sz : Nat) (D : Option (Nat → PT)) : PT := pr_lv f sz 160 0 (pr_1 f sz D)
def pr_L (f : Nat → Int32) (sz : Nat) (D : Option (Nat → PT)) : Nat → PT := fun l => bif Nat.beq l 0 then pr_0 f sz D else bif Nat.beq l 1 then pr_1 f sz D else bif Nat.beq l 2 then pr_2 f sz D else bif Nat.beq l 3 then pr_3 f sz D else bif Nat.beq l 4 then pr_4 f sz D else pr_one f sz D
def pr_D (f : Nat → Int32) (sz : Nat) : Nat → Option (Nat → PT)
  | 0 => none
  | k + 1 => some (pr_L f sz (pr_D f sz k))
/-- goes on by at least as many bytes as it tells steps -/
def PK (sz : Nat) (g : PT) : Prop := ∀ s : PS, s.1 ≤ sz → s.1 + (g s).2.length ≤ (g s).1.1 ∧ (g s).1.1 ≤ sz
theorem ps_a_le {f : Nat → Int32} {sz : Nat} {s : PS} (h : s.1 ≤ sz) (h1 : ps_t f sz s ≠ -31) (h2 : ps_t f sz s ≠ -30) : s.1 + 1 ≤ (ps_a f sz s).1 ∧ (ps_a f sz s).1 ≤ sz ∧ s.2 = false := by
  obtain ⟨p, b⟩ := s
  cases b with
  | true => exact absurd rfl h1
  | false =>
    have h : p ≤ sz := h
    have h3 : lx_t f sz p ≠ -30 := h2
    have h4 := lx_t_end h h3
    have h5 := lx_b_le (f := f) h
    have h6 := lx_e_le (f := f) h
    exact ⟨by show p + 1 ≤ lx_e f sz p; omega, h6.2.1, rfl⟩
theorem ps_x_le {f : Nat → Int32} {sz : Nat} {due : Int32} {s : PS} (h : s.1 ≤ sz) : s.1 ≤ (ps_x f sz due s).1 ∧ (ps_x f sz due s).1 ≤ sz := by
  unfold ps_x
  split
  · have := lx_e_le (f := f) h; exact ⟨this.1, this.2.1⟩
  · exact ⟨Nat.le_refl _, h⟩
theorem pr_lev_t {x l : Int32} (h : pr_lev x = l) (hl : 0 ≤ l) : x ≠ -31 ∧ x ≠ -30 := by
  constructor <;> (intro q; rw [q] at h; rw [← h] at hl; exact absurd hl (by decide))
theorem PK.beh {f : Nat → Int32} {sz : Nat} {D : Option (Nat → PT)} {st : Int32} {l : Nat} (hD : ∀ d, D = some d → PK sz (d l)) {s : PS} (h : s.1 ≤ sz) (h1 : ps_t f sz s ≠ -31) (h2 : ps_t f sz s ≠ -30) : s.1 + (pr_beh f sz D st l s).2.length ≤ (pr_beh f sz D st l s).1.1 ∧ (pr_beh f sz D st l s).1.1 ≤ sz := by
  cases D with
  | none => exact ⟨Nat.le_refl _, h⟩
  | some d =>
    have h3 := ps_a_le h h1 h2
    have h4 := hD d rfl (ps_a f sz s) h3.2.1
    refine ⟨?_, h4.2⟩
    show s.1 + ((d l (ps_a f sz s)).2 ++ [st]).length ≤ (d l (ps_a f sz s)).1.1
    rw [List.length_append]
    show s.1 + ((d l (ps_a f sz s)).2.length + 1) ≤ _
    omega
theorem PK.one {f : Nat → Int32} {sz : Nat} {D : Option (Nat → PT)} (hD : ∀ d, D = some d → ∀ l, PK sz (d l)) : PK sz (pr_one f sz D) := by
  intro s h
  unfold pr_one
  by_cases h0 : ps_t f sz s < -6
  · rw [if_pos h0]
    by_cases h1 : ps_t f sz s = -16
    · rw [if_pos h1]
      exact PK.beh (fun d e => hD d e 5) h (by rw [h1]; decide) (by rw [h1]; decide)
    · rw [if_neg h1]
      cases D with
      | none => exact ⟨Nat.le_refl _, h⟩
      | some d =>
        dsimp only
        by_cases h2 : ps_t f sz s = -20
        · rw [if_pos h2]
          have h3 := ps_a_le h (by rw [h2]; decide) (by rw [h2]; decide)
          have h4 := hD d rfl 0 (ps_a f sz s) h3.2.1
          have h5 := ps_x_le (f := f) (due := -21) h4.2
          dsimp only
          omega
        · rw [if_neg h2]
          exact ⟨Nat.le_refl _, h⟩
  · rw [if_neg h0]
    have h3 := ps_a_le (f := f) h (fun q => h0 (by rw [q]; decide)) (fun q => h0 (by rw [q]; decide))
    exact ⟨h3.1, h3.2.1⟩
theorem PK.lp {f : Nat → Int32} {sz : Nat} {l : Int32} {sub : PT} (hl : 0 ≤ l) (hs : PK sz sub) : ∀ m, PK sz (pr_lp f sz l sub m) := by
  intro m
  induction m with
  | zero => intro s h; exact ⟨Nat.le_refl _, h⟩
  | succ m ih =>
    intro s h
    unfold pr_lp
    by_cases h0 : pr_lev (ps_t f sz s) = l
    · rw [if_pos h0]
      have ht := pr_lev_t h0 hl
      have h3 := ps_a_le h ht.1 ht.2
      have h4 := hs (ps_a f sz s) h3.2.1
      have h5 := ih (sub (ps_a f sz s)).1 h4.2
      dsimp only
      rw [List.length_append, List.length_cons]
      omega
    · rw [if_neg h0]
      exact ⟨Nat.le_refl _, h⟩
theorem PK.lv {f : Nat → Int32} {sz m : Nat} {l : Int32} {sub : PT} (hl : 0 ≤ l) (hs : PK sz sub) : PK sz (pr_lv f sz m l sub) := by
  intro s h
  have h4 := hs s h
  have h5 := PK.lp (f := f) hl hs m (sub s).1 h4.2
  unfold pr_lv
  dsimp only
  rw [List.length_append]
  omega
theorem PK.L {f : Nat → Int32} {sz : Nat} {D : Option (Nat → PT)} (hD : ∀ d, D = some d → ∀ l, PK sz (d l)) (l : Nat) : PK sz (pr_L f sz D l) := by
  have h5 := PK.one (f := f) hD
  have h4 : PK sz (pr_4 f sz D) := PK.lv (by decide) h5
  have h3 : PK sz (pr_3 f sz D) := PK.lv (by decide) h4
  have h2 : PK sz (pr_2 f sz D) := by
    intro s h
    unfold pr_2
    by_cases h0 : ps_t f sz s = -18
    · rw [if_pos h0]
      exact PK.beh (fun d e => hD d e 2) h (by rw [h0]; decide) (by rw [h0]; decide)
    · rw [if_neg h0]
      exact PK.lv (by decide) h3 s h
  have h1 : PK sz (pr_1 f sz D) := PK.lv (by decide) h2
  have h0 : PK sz (pr_0 f sz D) := PK.lv (by decide) h1
  unfold pr_L
  cases Nat.beq l 0 with
  | true => exact h0
  | false =>
    cases Nat.beq l 1 with
    | true => exact h1
    | false =>
      cases Nat.beq l 2 with
      | true => exact h2
      | false =>
        cases Nat.beq l 3 with
        | true => exact h3
        | false =>
          cases Nat.beq l 4 with
          | true => exact h4
          | false => exact h5
theorem PK.D {f : Nat → Int32} {sz : Nat} : ∀ (k : Nat) (d : Nat → PT), pr_D f sz k = some d → ∀ l, PK sz (d l) := by
  intro k
  induction k with
  | zero => intro d h; cases h
  | succ k ih =>
    intro d h l
    cases h
    exact PK.L ih l
