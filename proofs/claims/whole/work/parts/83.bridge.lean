/-! the walk of the law put into the kit's W -/
theorem law_W {p : Program} {e : Env} {s : State} {m : MethodId} {below : List Frame} {meth : Method} {c : Code} {l : Launch} {b L : Nat} {xs : Nat → Int32} {oa : Nat → Nat} {D : va_G} {ca : Nat → ClassId} (hL : L ≤ 3072) (C0 : lw_At p s m meth c b L xs) (h3 : oa 3 = b) (hW : zWd s.heap.size oa D ca (L, xs) s s.heap) : W p l e room_1 s m #[Value.ref b] below meth c s.heap [] 0 0 (lw_Z below #[Value.ref b] s) (entryFrame m ([Value.ref b] : List Value).toArray 4) := by
  obtain ⟨hx, hb, hr, hml, hown, hts, hX, hbl, hlocks, hgv⟩ := id C0
  have st := law_start (fz := fun y => y * 1103515245 + 12345) (fd := fun w => (w.toUInt32 >>> (Int32.toUInt32 9 &&& Int32.toUInt32 31)).toInt32 - (w.toUInt32 >>> (Int32.toUInt32 9 &&& Int32.toUInt32 31)).toInt32 / 3 * 3) ⟨fun _ => rfl, fun _ => rfl⟩ (L := L) (d := 100) (xs := xs) (by decide) hL
  have hl := lv_entry ([.ref b]) (n := 4) (Nat.le_of_ble_eq_true rfl)
  rw [lg_entry_eq]
  generalize (lg_sl ([.ref b]) ++ List.replicate (4 - (lg_sl ([.ref b])).length) Slot.unset).toArray = ls at hl ⊢
  have hl : lv_has ls 4 [(0, .ref b)] := hl
  have htb : ∀ w ∈ tbG, w.before #[Value.ref b] s = true := fun w hw => hts w (List.mem_filter.mp hw).1
  have G : zGood (L, xs) 100 ((p, l, e, room_1, s), (m, #[Value.ref b], below, meth, c), (s.heap.size, oa, D, ca), (lw_Z below #[Value.ref b] s, 600000, 7302250)) m_L_law QL := by
    refine ⟨⟨hx, hb, hr, hml, hown, htb, hlocks, fun h => absurd h (by decide)⟩, hW, ⟨by decide, by decide, by decide, by decide⟩, fun v L2 μ2 H locs cells slots pc lsM hQ hrel hS hc hs hret => ?_⟩
    have hQ : v = some (.int 1) := hQ
    subst hQ
    have hdec : decode code pc = .ok (.ireturn, 1) := by
      rcases hret with ⟨-, h, -⟩ | ⟨x, ty, h, -, -, -⟩ | ⟨x, -, h, -⟩
      · cases h
      · exact h
      · cases h
    refine va_forget hS.2.2 ?_
    refine W.widen (k := 600000) (n := 7302250) hc hs ?_
    exact lw_ret hx hb hr hlocks hdec
  refine st ((p, l, e, room_1, s), (m, #[Value.ref b], below, meth, c), (s.heap.size, oa, D, ca), (lw_Z below #[Value.ref b] s, 600000, 7302250)) G s.heap [] 0 0 ls (by decide) (by decide) ⟨fun k q h => absurd h (by simp [z_ws]), rfl⟩ va_S.rf ⟨rfl, hl.1, hl.2.1, fun i v hi => ?_⟩
  match i, hi with
  | 0, hi =>
    have hi : some (some (Value.ref 1000003)) = some (some v) := hi
    cases hi
    have h0 := hl.2.2 (0, .ref b) List.mem_cons_self
    have et : z_tr s.heap.size oa (.ref 1000003) = .ref b := by
      show Value.ref (z_ta s.heap.size oa 1000003) = _
      have : z_ta s.heap.size oa 1000003 = oa 3 := rfl
      rw [this, h3]
    rw [et]
    exact h0
  | 1, hi => cases hi
  | 2, hi => cases hi
  | 3, hi => cases hi
  | i + 4, hi => cases hi
