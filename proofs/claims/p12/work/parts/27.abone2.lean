/-! the other steps that leave the heap -/
def az2 (W : AW) (ins : Instr) (pc : Nat) (A : List (Option AV)) (S : List AV) (m : AM) : Option (List AS) := match ins with
  | .ineg => match S with
    | x :: r => if x.1 = 0 then some [(pc + 1, A, aneg x :: r, m)] else none
    | _ => none
  | .i2c => match S with
    | x :: r => if x.1 = 0 then some [(pc + 1, A, avI 0 65535 :: r, m)] else none
    | _ => none
  | .i2l => match S with
    | x :: r => if x.1 = 0 then some [(pc + 1, A, avL :: r, m)] else none
    | _ => none
  | .l2i => match S with
    | x :: r => if x.1 = 1 then some [(pc + 1, A, avT :: r, m)] else none
    | _ => none
  | .lcmp => match S with
    | y :: x :: r => if x.1 = 1 ∧ y.1 = 1 then some [(pc + 1, A, avT :: r, m)] else none
    | _ => none
  | .idiv => match S with
    | y :: x :: r => if x.1 = 0 ∧ y.1 = 0 then (match adiv x y with
      | some c => some [(pc + 1, A, c :: r, m)]
      | none => none) else none
    | _ => none
  | .irem => match S with
    | y :: x :: r => if x.1 = 0 ∧ y.1 = 0 then (match arem x y with
      | some c => some [(pc + 1, A, c :: r, m)]
      | none => none) else none
    | _ => none
  | .dup => match S with
    | x :: r => if x.1 = 1 then none else some [(pc + 1, A, x :: x :: r, m)]
    | _ => none
  | .dup2 => match S with
    | x :: y :: r => if x.1 = 1 ∨ y.1 = 1 then none else some [(pc + 1, A, x :: y :: x :: y :: r, m)]
    | _ => none
  | .pop => match S with
    | x :: r => if x.1 = 1 then none else some [(pc + 1, A, r, m)]
    | _ => none
  | _ => none
theorem i32_ch (x : Int32) : 0 ≤ (x.toUInt32 % 65536).toInt32.toInt ∧ (x.toUInt32 % 65536).toInt32.toInt ≤ 65535 := by
  have e := i32_nat (x.toUInt32 % 65536).toInt32
  have e2 : (x.toUInt32 % 65536).toInt32.toBitVec.toNat = x.toUInt32.toNat % 65536 := by
    show (x.toUInt32 % 65536).toNat = _
    rw [UInt32.toNat_mod]
    rfl
  rw [e2] at e
  have h := Nat.mod_lt x.toUInt32.toNat (show 65536 > 0 by decide)
  rw [if_pos (by omega)] at e
  omega
theorem ga_c1 {W : AW} {a : AV} {v : Value} (h : ga W a v) (h1 : ¬ a.1 = 1) : v.category = 1 := by
  rcases (show v.category = 1 ∨ v.category = 2 by cases v <;> simp [Value.category]) with e | e
  · exact e
  · exact absurd (ga_cat h e) h1
theorem ga_1 {W : AW} {a : AV} {v : Value} (h0 : a.1 = 1) (hv : ga W a v) : ∃ x : Int64, v = .long x := by
  unfold ga at hv
  rw [h0] at hv
  exact hv
theorem az2_ok {W : AW} {E : Nat → Int} {L : XL} {h : XH} {A : List (Option AV)} {S : List AV} {m : AM} {st : List Value} {l : List AS} {ins : Instr} {a b pc : Nat} (hg : gss W E A S m L st h) (ha : az2 W ins pc A S m = some l) : ∃ o, xst ins a b pc L st h = some o ∧ aout W E h l o := by
  cases ins with
  | ineg =>
    simp only [az2] at ha
    split at ha
    · split at ha
      · rename_i hc
        cases ha
        obtain ⟨v, r, rfl, hv, hg1⟩ := hg.pop
        obtain ⟨x, rfl, -⟩ := ga_int hc hv.1
        exact ⟨_, rfl, aout.one (hg1.push (gv_neg hc hv))⟩
      · cases ha
    · cases ha
  | i2c =>
    simp only [az2] at ha
    split at ha
    · split at ha
      · rename_i hc
        cases ha
        obtain ⟨v, r, rfl, hv, hg1⟩ := hg.pop
        obtain ⟨x, rfl, -⟩ := ga_int hc hv.1
        exact ⟨_, rfl, aout.one (hg1.push (gv_I (i32_ch x).1 (i32_ch x).2))⟩
      · cases ha
    · cases ha
  | i2l =>
    simp only [az2] at ha
    split at ha
    · split at ha
      · rename_i hc
        cases ha
        obtain ⟨v, r, rfl, hv, hg1⟩ := hg.pop
        obtain ⟨x, rfl, -⟩ := ga_int hc hv.1
        exact ⟨_, rfl, aout.one (hg1.push (gv_L _))⟩
      · cases ha
    · cases ha
  | l2i =>
    simp only [az2] at ha
    split at ha
    · split at ha
      · rename_i hc
        cases ha
        obtain ⟨v, r, rfl, hv, hg1⟩ := hg.pop
        obtain ⟨x, rfl⟩ := ga_1 hc hv.1
        exact ⟨_, rfl, aout.one (hg1.push (gv_T _))⟩
      · cases ha
    · cases ha
  | lcmp =>
    simp only [az2] at ha
    split at ha
    · split at ha
      · rename_i hc
        cases ha
        obtain ⟨v, r, rfl, hv, hg1⟩ := hg.pop
        obtain ⟨u, r2, rfl, hu, hg2⟩ := hg1.pop
        obtain ⟨y, rfl⟩ := ga_1 hc.2 hv.1
        obtain ⟨x, rfl⟩ := ga_1 hc.1 hu.1
        exact ⟨_, rfl, aout.one (hg2.push (gv_T _))⟩
      · cases ha
    · cases ha
  | idiv =>
    simp only [az2] at ha
    split at ha
    · split at ha
      · rename_i hc
        split at ha
        · rename_i c hcc
          cases ha
          obtain ⟨v, r, rfl, hv, hg1⟩ := hg.pop
          obtain ⟨u, r2, rfl, hu, hg2⟩ := hg1.pop
          obtain ⟨y, rfl, -⟩ := ga_int hc.2 hv.1
          obtain ⟨x, rfl, -⟩ := ga_int hc.1 hu.1
          obtain ⟨k1, k2⟩ := gv_div hc.1 hc.2 hcc hu hv
          exact ⟨_, if_neg k1, aout.one (hg2.push k2)⟩
        · cases ha
      · cases ha
    · cases ha
  | irem =>
    simp only [az2] at ha
    split at ha
    · split at ha
      · rename_i hc
        split at ha
        · rename_i c hcc
          cases ha
          obtain ⟨v, r, rfl, hv, hg1⟩ := hg.pop
          obtain ⟨u, r2, rfl, hu, hg2⟩ := hg1.pop
          obtain ⟨y, rfl, -⟩ := ga_int hc.2 hv.1
          obtain ⟨x, rfl, -⟩ := ga_int hc.1 hu.1
          obtain ⟨k1, k2⟩ := gv_rem hc.1 hc.2 hcc hu hv
          exact ⟨_, if_neg k1, aout.one (hg2.push k2)⟩
        · cases ha
      · cases ha
    · cases ha
  | dup =>
    simp only [az2] at ha
    split at ha
    · split at ha
      · cases ha
      · rename_i hc
        cases ha
        obtain ⟨v, r, rfl, hv, hg1⟩ := hg.pop
        exact ⟨_, if_pos (ga_c1 hv.1 hc), aout.one ((hg1.push hv).push hv)⟩
    · cases ha
  | dup2 =>
    simp only [az2] at ha
    split at ha
    · split at ha
      · cases ha
      · rename_i hc
        cases ha
        obtain ⟨v, r, rfl, hv, hg1⟩ := hg.pop
        obtain ⟨u, r2, rfl, hu, hg2⟩ := hg1.pop
        exact ⟨_, if_pos ⟨ga_c1 hv.1 (fun e => hc (Or.inl e)), ga_c1 hu.1 (fun e => hc (Or.inr e))⟩, aout.one ((((hg2.push hu).push hv).push hu).push hv)⟩
    · cases ha
  | pop =>
    simp only [az2] at ha
    split at ha
    · split at ha
      · cases ha
      · rename_i hc
        cases ha
        obtain ⟨v, r, rfl, hv, hg1⟩ := hg.pop
        exact ⟨_, if_pos (ga_c1 hv.1 hc), aout.one hg1⟩
    · cases ha
  | _ => cases ha
