/-! branches -/
section AB
variable {W : AW} {E : Nat → Int} {L : XL} {h : XH} {A : List (Option AV)} {S : List AV} {m : AM} {st : List Value} {l : List AS} {t f pc : Nat} {a b : AV} {x y : Int32}
theorem aone.out (k : aone W E L h l pc S) (hs : gst W E L h S st) (hI : AInv W h) : aout W E h l (pc, L, st) := by
  obtain ⟨q, hq, e1, e2, g1, g2⟩ := k
  exact ⟨q, hq, e1, g1, by rw [e2]; exact hs, g2, hI⟩
theorem acmp_eq (ha : gm W E L h a (.int x)) (hb : gm W E L h b (.int y)) (ia : gi a x) (ib : gi b y) (hA : gls W E L h A) (hm : gmem W h m) : aone W E L h (acmp .eq t f a b A S m) (if x = y then t else f) S := by
  by_cases hc : x = y
  · rw [if_pos hc]; exact (aeq_ok t ha hb ia ib hA hm hc).left
  · rw [if_neg hc]; exact (ane_ok f ha hb ia ib hA hm hc).right
theorem acmp_ne (ha : gm W E L h a (.int x)) (hb : gm W E L h b (.int y)) (ia : gi a x) (ib : gi b y) (hA : gls W E L h A) (hm : gmem W h m) : aone W E L h (acmp .ne t f a b A S m) (if x = y then f else t) S := by
  by_cases hc : x = y
  · rw [if_pos hc]; exact (aeq_ok f ha hb ia ib hA hm hc).left
  · rw [if_neg hc]; exact (ane_ok t ha hb ia ib hA hm hc).right
theorem acmp_lt (ha : gm W E L h a (.int x)) (hb : gm W E L h b (.int y)) (ia : gi a x) (ib : gi b y) (hA : gls W E L h A) (hm : gmem W h m) : aone W E L h (acmp .lt t f a b A S m) (if x < y then t else f) S := by
  by_cases hc : x < y
  · rw [if_pos hc]; exact (alt_ok t ha hb ia ib hA hm hc).left
  · rw [if_neg hc]; exact (age_ok f ha hb ia ib hA hm (Int32.not_lt.mp hc)).right
theorem acmp_ge (ha : gm W E L h a (.int x)) (hb : gm W E L h b (.int y)) (ia : gi a x) (ib : gi b y) (hA : gls W E L h A) (hm : gmem W h m) : aone W E L h (acmp .ge t f a b A S m) (if y ≤ x then t else f) S := by
  by_cases hc : y ≤ x
  · rw [if_pos hc]; exact (age_ok t ha hb ia ib hA hm hc).left
  · rw [if_neg hc]; exact (alt_ok f ha hb ia ib hA hm (Int32.not_le.mp hc)).right
theorem acmp_gt (ha : gm W E L h a (.int x)) (hb : gm W E L h b (.int y)) (ia : gi a x) (ib : gi b y) (hA : gls W E L h A) (hm : gmem W h m) : aone W E L h (acmp .gt t f a b A S m) (if y < x then t else f) S := by
  by_cases hc : y < x
  · rw [if_pos hc]; exact (alt_ok t hb ha ib ia hA hm hc).left
  · rw [if_neg hc]; exact (age_ok f hb ha ib ia hA hm (Int32.not_lt.mp hc)).right
theorem acmp_le (ha : gm W E L h a (.int x)) (hb : gm W E L h b (.int y)) (ia : gi a x) (ib : gi b y) (hA : gls W E L h A) (hm : gmem W h m) : aone W E L h (acmp .le t f a b A S m) (if x ≤ y then t else f) S := by
  by_cases hc : x ≤ y
  · rw [if_pos hc]; exact (age_ok t hb ha ib ia hA hm hc).left
  · rw [if_neg hc]; exact (alt_ok f hb ha ib ia hA hm (Int32.not_le.mp hc)).right
theorem azcmp_ok {c : Jvm.ClassFile.Cond} {off : Int} {n : Nat} (hg : gss W E A S m L st h) (ha : azcmp c t (pc + 3) A S m = some l) : ∃ o, xst (.if_icmp c off) t n pc L st h = some o ∧ aout W E h l o := by
  unfold azcmp at ha
  split at ha
  · rename_i b a S2
    split at ha
    · rename_i hc
      cases ha
      obtain ⟨v, r, rfl, hv, hg2⟩ := hg.pop
      obtain ⟨u, r2, rfl, hu, hg3⟩ := hg2.pop
      obtain ⟨y, rfl, iy⟩ := ga_int hc.2 hv.1
      obtain ⟨x, rfl, ix⟩ := ga_int hc.1 hu.1
      cases c with
      | eq => exact ⟨_, rfl, (acmp_eq hu.2 hv.2 ix iy hg3.1 hg3.2.2.1).out hg3.2.1 hg3.2.2.2⟩
      | ne => exact ⟨_, rfl, (acmp_ne hu.2 hv.2 ix iy hg3.1 hg3.2.2.1).out hg3.2.1 hg3.2.2.2⟩
      | lt => exact ⟨_, rfl, (acmp_lt hu.2 hv.2 ix iy hg3.1 hg3.2.2.1).out hg3.2.1 hg3.2.2.2⟩
      | ge => exact ⟨_, rfl, (acmp_ge hu.2 hv.2 ix iy hg3.1 hg3.2.2.1).out hg3.2.1 hg3.2.2.2⟩
      | gt => exact ⟨_, rfl, (acmp_gt hu.2 hv.2 ix iy hg3.1 hg3.2.2.1).out hg3.2.1 hg3.2.2.2⟩
      | le => exact ⟨_, rfl, (acmp_le hu.2 hv.2 ix iy hg3.1 hg3.2.2.1).out hg3.2.1 hg3.2.2.2⟩
    · cases ha
  · cases ha
theorem azcm0_ok {c : Jvm.ClassFile.Cond} {off : Int} {n : Nat} (hg : gss W E A S m L st h) (ha : azcm0 c t (pc + 3) A S m = some l) : ∃ o, xst (.ifCond c off) t n pc L st h = some o ∧ aout W E h l o := by
  unfold azcm0 at ha
  split at ha
  · rename_i a S2
    split at ha
    · rename_i hc
      cases ha
      obtain ⟨u, r2, rfl, hu, hg3⟩ := hg.pop
      obtain ⟨x, rfl, ix⟩ := ga_int hc hu.1
      have hv : gv W E L h (avI 0 0) (.int 0) := gv_I (by decide) (by decide)
      have iy : gi (avI 0 0) 0 := ⟨by decide, by decide⟩
      cases c with
      | eq => exact ⟨_, rfl, (acmp_eq hu.2 hv.2 ix iy hg3.1 hg3.2.2.1).out hg3.2.1 hg3.2.2.2⟩
      | ne => exact ⟨_, rfl, (acmp_ne hu.2 hv.2 ix iy hg3.1 hg3.2.2.1).out hg3.2.1 hg3.2.2.2⟩
      | lt => exact ⟨_, rfl, (acmp_lt hu.2 hv.2 ix iy hg3.1 hg3.2.2.1).out hg3.2.1 hg3.2.2.2⟩
      | ge => exact ⟨_, rfl, (acmp_ge hu.2 hv.2 ix iy hg3.1 hg3.2.2.1).out hg3.2.1 hg3.2.2.2⟩
      | gt => exact ⟨_, rfl, (acmp_gt hu.2 hv.2 ix iy hg3.1 hg3.2.2.1).out hg3.2.1 hg3.2.2.2⟩
      | le => exact ⟨_, rfl, (acmp_le hu.2 hv.2 ix iy hg3.1 hg3.2.2.1).out hg3.2.1 hg3.2.2.2⟩
    · cases ha
  · cases ha
end AB
