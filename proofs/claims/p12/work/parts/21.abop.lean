/-! the operations on ints, with their marks -/
section AO
variable {W : AW} {E : Nat → Int} {L : XL} {h : XH} {a b c : AV} {x y : Int32}
theorem gv_gi (h0 : a.1 = 0) (hv : gv W E L h a (.int x)) : gi a x := by
  obtain ⟨z, e, hz⟩ := ga_int h0 hv.1
  cases e
  exact hz
theorem gv_sym (h0 : a.1 = 0) (hv : gv W E L h a (.int x)) (hs : 0 < a.2.2.2.1) : x.toInt = E (a.2.2.2.1 - 1) + a.2.2.2.2.1 := by
  obtain ⟨z, e, hz⟩ := hv.2.1 h0 hs
  cases e
  exact hz
theorem gv_gI (h0 : c.1 = 0) (hs : c.2.2.2.1 = 0) (hr : c.2.2.2.2.2 = 0) (hi : gi c x) : gv W E L h c (.int x) := gv_plain (ga_of h0 hi) (fun _ => hs) hr
theorem gv_add (ha : a.1 = 0) (hb : b.1 = 0) (hx : gv W E L h a (.int x)) (hy : gv W E L h b (.int y)) : gv W E L h (aadd a b) (.int (x + y)) := by
  have ix := gv_gi ha hx
  have iy := gv_gi hb hy
  have hi := gi_add ix iy
  unfold aadd at hi ⊢
  split
  · exact gv_gI rfl rfl rfl (gi_T _)
  · rename_i hc
    rw [if_neg hc] at hi
    obtain ⟨p1, p2⟩ := ix
    obtain ⟨q1, q2⟩ := iy
    have e : (x + y).toInt = x.toInt + y.toInt := i32_add (by omega) (by omega)
    split
    · rename_i hb2
      rw [if_pos hb2] at hi
      refine ⟨ga_of rfl hi, fun _ hs => ⟨_, rfl, ?_⟩, fun h0 => absurd (show 0 < 0 from h0) (by decide), fun h0 => absurd (show 1000 ≤ 0 from h0) (by decide)⟩
      have := gv_sym ha hx hs
      show (x + y).toInt = E (a.2.2.2.1 - 1) + (a.2.2.2.2.1 + b.2.1)
      omega
    · rename_i hb2
      rw [if_neg hb2] at hi
      split
      · rename_i ha2
        rw [if_pos ha2] at hi
        refine ⟨ga_of rfl hi, fun _ hs => ⟨_, rfl, ?_⟩, fun h0 => absurd (show 0 < 0 from h0) (by decide), fun h0 => absurd (show 1000 ≤ 0 from h0) (by decide)⟩
        have := gv_sym hb hy hs
        show (x + y).toInt = E (b.2.2.2.1 - 1) + (b.2.2.2.2.1 + a.2.1)
        omega
      · rename_i ha2
        rw [if_neg ha2] at hi
        exact gv_gI rfl rfl rfl hi
theorem gv_sub (ha : a.1 = 0) (hb : b.1 = 0) (hx : gv W E L h a (.int x)) (hy : gv W E L h b (.int y)) : gv W E L h (asub a b) (.int (x - y)) := by
  have ix := gv_gi ha hx
  have iy := gv_gi hb hy
  have hi := gi_sub ix iy
  unfold asub at hi ⊢
  split
  · exact gv_gI rfl rfl rfl (gi_T _)
  · rename_i hc
    rw [if_neg hc] at hi
    obtain ⟨p1, p2⟩ := ix
    obtain ⟨q1, q2⟩ := iy
    have e : (x - y).toInt = x.toInt - y.toInt := i32_sub (by omega) (by omega)
    split
    · rename_i hb2
      rw [if_pos hb2] at hi
      refine ⟨ga_of rfl hi, fun _ hs => ⟨_, rfl, ?_⟩, fun h0 => absurd (show 0 < 0 from h0) (by decide), fun h0 => absurd (show 1000 ≤ 0 from h0) (by decide)⟩
      have := gv_sym ha hx hs
      show (x - y).toInt = E (a.2.2.2.1 - 1) + (a.2.2.2.2.1 - b.2.1)
      omega
    · rename_i hb2
      rw [if_neg hb2] at hi
      exact gv_gI rfl rfl rfl hi
theorem acl_0 (lo hi : Int) : (acl lo hi).1 = 0 ∧ (acl lo hi).2.2.2.1 = 0 ∧ (acl lo hi).2.2.2.2.2 = 0 := by
  unfold acl
  split <;> exact ⟨rfl, rfl, rfl⟩
theorem gv_mul (ha : a.1 = 0) (hb : b.1 = 0) (hx : gv W E L h a (.int x)) (hy : gv W E L h b (.int y)) : gv W E L h (amul a b) (.int (x * y)) :=
  gv_gI (acl_0 _ _).1 (acl_0 _ _).2.1 (acl_0 _ _).2.2 (gi_mul (gv_gi ha hx) (gv_gi hb hy))
theorem aand_0 (a b : AV) : (aand a b).1 = 0 ∧ (aand a b).2.2.2.1 = 0 ∧ (aand a b).2.2.2.2.2 = 0 := by
  unfold aand
  split
  · split <;> exact ⟨rfl, rfl, rfl⟩
  · split <;> exact ⟨rfl, rfl, rfl⟩
theorem gv_and (ha : a.1 = 0) (hb : b.1 = 0) (hx : gv W E L h a (.int x)) (hy : gv W E L h b (.int y)) : gv W E L h (aand a b) (.int (x &&& y)) :=
  gv_gI (aand_0 _ _).1 (aand_0 _ _).2.1 (aand_0 _ _).2.2 (gi_and (gv_gi ha hx) (gv_gi hb hy))
theorem ashl_0 (a b : AV) : (ashl a b).1 = 0 ∧ (ashl a b).2.2.2.1 = 0 ∧ (ashl a b).2.2.2.2.2 = 0 := by
  unfold ashl
  split <;> exact ⟨rfl, rfl, rfl⟩
theorem gv_shl (ha : a.1 = 0) (hb : b.1 = 0) (hx : gv W E L h a (.int x)) (hy : gv W E L h b (.int y)) : gv W E L h (ashl a b) (.int (x <<< (y &&& 31))) :=
  gv_gI (ashl_0 _ _).1 (ashl_0 _ _).2.1 (ashl_0 _ _).2.2 (gi_shl (gv_gi ha hx) (gv_gi hb hy))
theorem gv_T (x : Int32) : gv W E L h avT (.int x) := gv_gI rfl rfl rfl (gi_T x)
def ashr (a b : AV) : AV := if b.2.1 = 0 ∧ b.2.2.1 = 0 then avI a.2.1 a.2.2.1 else avT
theorem gv_shr (ha : a.1 = 0) (hb : b.1 = 0) (hx : gv W E L h a (.int x)) (hy : gv W E L h b (.int y)) : gv W E L h (ashr a b) (.int (x >>> (y &&& 31))) := by
  have ix := gv_gi ha hx
  have iy := gv_gi hb hy
  unfold ashr
  split
  · rename_i hc
    have ey : y = 0 := i32_is (n := 0) (by omega) (by have := iy.1; have := iy.2; omega)
    subst ey
    have e : x >>> ((0 : Int32) &&& 31) = x := by
      rw [show ((0 : Int32) &&& 31) = 0 by decide]
      exact Int32.shiftRight_zero
    rw [e]
    exact gv_I ix.1 ix.2
  · exact gv_T _
theorem gv_neg (ha : a.1 = 0) (hx : gv W E L h a (.int x)) : gv W E L h (aneg a) (.int (-x)) :=
  gv_gI (acl_0 _ _).1 (acl_0 _ _).2.1 (acl_0 _ _).2.2 (gi_neg (gv_gi ha hx))
theorem adiv_0 (hc : adiv a b = some c) : c.1 = 0 ∧ c.2.2.2.1 = 0 ∧ c.2.2.2.2.2 = 0 := by
  unfold adiv at hc
  split at hc
  · cases hc
    split <;> exact ⟨rfl, rfl, rfl⟩
  · cases hc
theorem arem_0 (hc : arem a b = some c) : c.1 = 0 ∧ c.2.2.2.1 = 0 ∧ c.2.2.2.2.2 = 0 := by
  unfold arem at hc
  split at hc
  · cases hc
    split <;> exact ⟨rfl, rfl, rfl⟩
  · cases hc
theorem gv_div (ha : a.1 = 0) (hb : b.1 = 0) (hc : adiv a b = some c) (hx : gv W E L h a (.int x)) (hy : gv W E L h b (.int y)) : ¬ y = 0 ∧ gv W E L h c (.int (x / y)) :=
  have k := gi_div (gv_gi ha hx) (gv_gi hb hy) hc
  ⟨k.1, gv_gI (adiv_0 hc).1 (adiv_0 hc).2.1 (adiv_0 hc).2.2 k.2⟩
theorem gv_rem (ha : a.1 = 0) (hb : b.1 = 0) (hc : arem a b = some c) (hx : gv W E L h a (.int x)) (hy : gv W E L h b (.int y)) : ¬ y = 0 ∧ gv W E L h c (.int (x - x / y * y)) :=
  have k := gi_rem (gv_gi ha hx) (gv_gi hb hy) hc
  ⟨k.1, gv_gI (arem_0 hc).1 (arem_0 hc).2.1 (arem_0 hc).2.2 k.2⟩
end AO
