/-! one step that leaves the heap: all instructions -/
def azk (c : Int) (q : Nat) (A : List (Option AV)) (S : List AV) (m : AM) : Option (List AS) := some [(q, A, avI c c :: S, m)]
def az1 (W : AW) (ins : Instr) (a b pc : Nat) (A : List (Option AV)) (S : List AV) (m : AM) : Option (List AS) := match ins with
  | .iconst n => azk (Int32.ofInt n).toInt (pc + 1) A S m
  | .bipush n => azk (Int8.ofInt n).toInt32.toInt (pc + 2) A S m
  | .sipush n => azk (Int16.ofInt n).toInt32.toInt (pc + 3) A S m
  | .ldc_w _ => azk (Int32.ofNat a).toInt (pc + 3) A S m
  | .lconst _ => some [(pc + 1, A, avL :: S, m)]
  | .ldc2_w _ => some [(pc + 3, A, avL :: S, m)]
  | .aconst_null => some [(pc + 1, A, (4, 0, 0, 0, 0, 0) :: S, m)]
  | .iload_n k => azld (fun t => t == 0) (pc + 1) k A S m
  | .iload k => azld (fun t => t == 0) (pc + 2) k A S m
  | .lload_n k => azld (fun t => t == 1) (pc + 1) k A S m
  | .lload k => azld (fun t => t == 1) (pc + 2) k A S m
  | .aload_n k => azld aisr (pc + 1) k A S m
  | .aload k => azld aisr (pc + 2) k A S m
  | .istore_n k => azst (fun t => t == 0) (pc + 1) k A S m
  | .istore k => azst (fun t => t == 0) (pc + 2) k A S m
  | .astore_n k => azst aisr (pc + 1) k A S m
  | .astore k => azst aisr (pc + 2) k A S m
  | .iadd => azb2 (fun x y => some (aadd x y)) (pc + 1) A S m
  | .isub => azb2 (fun x y => some (asub x y)) (pc + 1) A S m
  | .imul => azb2 (fun x y => some (amul x y)) (pc + 1) A S m
  | .iand => azb2 (fun x y => some (aand x y)) (pc + 1) A S m
  | .ior => azb2 (fun _ _ => some avT) (pc + 1) A S m
  | .ixor => azb2 (fun _ _ => some avT) (pc + 1) A S m
  | .ishl => azb2 (fun x y => some (ashl x y)) (pc + 1) A S m
  | .ishr => azb2 (fun x y => some (ashr x y)) (pc + 1) A S m
  | .iushr => azb2 (fun _ _ => some avT) (pc + 1) A S m
  | .ladd => azl2 (pc + 1) A S m
  | .lsub => azl2 (pc + 1) A S m
  | .land => azl2 (pc + 1) A S m
  | .lor => azl2 (pc + 1) A S m
  | .lshl => azls (pc + 1) A S m
  | .lshr => azls (pc + 1) A S m
  | .lushr => azls (pc + 1) A S m
  | .if_icmp c _ => azcmp c a (pc + 3) A S m
  | .ifCond c _ => azcm0 c a (pc + 3) A S m
  | .goto _ => some [(a, A, S, m)]
  | .getfield _ => if a = 98 then none else azgf W a b (pc + 3) A S m
  | .arraylength => azlen W (pc + 1) A S m
  | .aaload => azaa W (pc + 1) A S m
  | .iaload => azel W 0 (pc + 1) A S m
  | _ => none
theorem az1_ok {W : AW} {E : Nat → Int} {L : XL} {h : XH} {A : List (Option AV)} {S : List AV} {m : AM} {st : List Value} {l : List AS} {ins : Instr} {a b pc : Nat} (hw : AWf W) (hg : gss W E A S m L st h) (ha : az1 W ins a b pc A S m = some l) : ∃ o, xst ins a b pc L st h = some o ∧ aout W E h l o := by
  cases ins with
  | iconst n => cases ha; exact ⟨_, rfl, aout.one (hg.push (gv_I (Int.le_refl _) (Int.le_refl _)))⟩
  | bipush n => cases ha; exact ⟨_, rfl, aout.one (hg.push (gv_I (Int.le_refl _) (Int.le_refl _)))⟩
  | sipush n => cases ha; exact ⟨_, rfl, aout.one (hg.push (gv_I (Int.le_refl _) (Int.le_refl _)))⟩
  | ldc_w n => cases ha; exact ⟨_, rfl, aout.one (hg.push (gv_I (Int.le_refl _) (Int.le_refl _)))⟩
  | lconst n => cases ha; exact ⟨_, rfl, aout.one (hg.push (gv_L _))⟩
  | ldc2_w n => cases ha; exact ⟨_, rfl, aout.one (hg.push (gv_L _))⟩
  | aconst_null => cases ha; exact ⟨_, rfl, aout.one (hg.push (gv_plain rfl (fun _ => rfl) rfl))⟩
  | iload_n k => exact azldi_ok hg ha
  | iload k => exact azldi_ok hg ha
  | lload_n k => exact azldl_ok hg ha
  | lload k => exact azldl_ok hg ha
  | aload_n k => exact azlda_ok hg ha
  | aload k => exact azlda_ok hg ha
  | istore_n k => exact azsti_ok hg ha
  | istore k => exact azsti_ok hg ha
  | astore_n k => exact azsta_ok hg ha
  | astore k => exact azsta_ok hg ha
  | iadd => exact azb2_ok (f := fun x y => some (aadd x y)) (fun a b c x y e h1 h2 h3 h4 => by cases e; exact gv_add h1 h2 h3 h4) hg ha
  | isub => exact azb2_ok (f := fun x y => some (asub x y)) (fun a b c x y e h1 h2 h3 h4 => by cases e; exact gv_sub h1 h2 h3 h4) hg ha
  | imul => exact azb2_ok (f := fun x y => some (amul x y)) (fun a b c x y e h1 h2 h3 h4 => by cases e; exact gv_mul h1 h2 h3 h4) hg ha
  | iand => exact azb2_ok (f := fun x y => some (aand x y)) (fun a b c x y e h1 h2 h3 h4 => by cases e; exact gv_and h1 h2 h3 h4) hg ha
  | ior => exact azb2_ok (f := fun _ _ => some avT) (fun a b c x y e h1 h2 h3 h4 => by cases e; exact gv_T _) hg ha
  | ixor => exact azb2_ok (f := fun _ _ => some avT) (fun a b c x y e h1 h2 h3 h4 => by cases e; exact gv_T _) hg ha
  | ishl => exact azb2_ok (f := fun x y => some (ashl x y)) (fun a b c x y e h1 h2 h3 h4 => by cases e; exact gv_shl h1 h2 h3 h4) hg ha
  | ishr => exact azb2_ok (f := fun x y => some (ashr x y)) (fun a b c x y e h1 h2 h3 h4 => by cases e; exact gv_shr h1 h2 h3 h4) hg ha
  | iushr => exact azb2_ok (f := fun _ _ => some avT) (fun a b c x y e h1 h2 h3 h4 => by cases e; exact gv_T _) hg ha
  | ladd => exact azl2_ok hg ha
  | lsub => exact azl2_ok hg ha
  | land => exact azl2_ok hg ha
  | lor => exact azl2_ok hg ha
  | lshl => exact azls_ok hg ha
  | lshr => exact azls_ok hg ha
  | lushr => exact azls_ok hg ha
  | if_icmp c off => exact azcmp_ok hg ha
  | ifCond c off => exact azcm0_ok hg ha
  | goto off => cases ha; exact ⟨_, rfl, aout.one hg⟩
  | getfield idx =>
    simp only [az1] at ha
    split at ha
    · cases ha
    · rename_i h98
      obtain ⟨k, r, v, rfl, e, ho⟩ := azgf_ok hw hg ha
      exact ⟨_, by simp only [xst, if_neg h98, e], ho⟩
  | arraylength =>
    obtain ⟨k, r, n, rfl, e, ho⟩ := azlen_ok hw hg ha
    exact ⟨_, by simp only [xst, e], ho⟩
  | aaload =>
    obtain ⟨i, k, r, v, rfl, e, ho⟩ := azaa_ok hw hg ha
    exact ⟨_, by simp only [xst, e], ho⟩
  | iaload =>
    obtain ⟨i, k, r, o, rfl, hk, -, e, e2, hn, ho⟩ := azel_at hw hg ha
    have e9 : xia h 0 k i = some (o.2.2 i.toNatClampNeg) := by
      unfold xia
      rw [e]
      exact if_pos ⟨by have := hg.2.2.2.1; omega, e2, hn⟩
    exact ⟨_, by simp only [xst, e9], ho⟩
  | _ => cases ha
