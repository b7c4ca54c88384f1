/-! one step that leaves the heap -/
def azld (t : Nat → Bool) (q k : Nat) (A : List (Option AV)) (S : List AV) (m : AM) : Option (List AS) := if k < 999 then (match A[k]? with
  | some (some a) => if t a.1 = true then some [(q, A, amark a k :: S, m)] else none
  | _ => none) else none
def azst (t : Nat → Bool) (q k : Nat) (A : List (Option AV)) (S : List AV) (m : AM) : Option (List AS) := match S with
  | a :: r => if t a.1 = true ∧ k < A.length ∧ afree A k = true then some [(q, (A.map (Option.map (aunS (k + 1)))).set k (some (aun a)), r.map (aunS (k + 1)), m)] else none
  | _ => none
def azb2 (f : AV → AV → Option AV) (q : Nat) (A : List (Option AV)) (S : List AV) (m : AM) : Option (List AS) := match S with
  | b :: a :: r => if a.1 = 0 ∧ b.1 = 0 then (match f a b with
    | some c => some [(q, A, c :: r, m)]
    | none => none) else none
  | _ => none
def azl2 (q : Nat) (A : List (Option AV)) (S : List AV) (m : AM) : Option (List AS) := match S with
  | b :: a :: r => if a.1 = 1 ∧ b.1 = 1 then some [(q, A, avL :: r, m)] else none
  | _ => none
def azls (q : Nat) (A : List (Option AV)) (S : List AV) (m : AM) : Option (List AS) := match S with
  | b :: a :: r => if a.1 = 1 ∧ b.1 = 0 then some [(q, A, avL :: r, m)] else none
  | _ => none
def azcmp (c : Jvm.ClassFile.Cond) (t f : Nat) (A : List (Option AV)) (S : List AV) (m : AM) : Option (List AS) := match S with
  | b :: a :: r => if a.1 = 0 ∧ b.1 = 0 then some (acmp c t f a b A r m) else none
  | _ => none
def azcm0 (c : Jvm.ClassFile.Cond) (t f : Nat) (A : List (Option AV)) (S : List AV) (m : AM) : Option (List AS) := match S with
  | a :: r => if a.1 = 0 then some (acmp c t f a (avI 0 0) A r m) else none
  | _ => none
section AZ
variable {W : AW} {E : Nat → Int} {L : XL} {h : XH} {A : List (Option AV)} {S : List AV} {m : AM} {st : List Value} {l : List AS} {q k : Nat}
theorem azld_at {t : Nat → Bool} (hg : gss W E A S m L st h) (ha : azld t q k A S m = some l) : ∃ a v, t a.1 = true ∧ ga W a v ∧ L[k]? = some (some v) ∧ aout W E h l (q, L, v :: st) := by
  unfold azld at ha
  split at ha
  · rename_i hk
    split at ha
    · rename_i a hA
      split at ha
      · rename_i ht
        cases ha
        obtain ⟨d, hd, v, rfl, hv⟩ := hg.1.2 _ _ hA
        exact ⟨a, v, ht, hv.1, hd, aout.one (hg.push (gv_mark hk hv hd))⟩
      · cases ha
    · cases ha
  · cases ha
theorem azldi_ok (hg : gss W E A S m L st h) (ha : azld (fun t => t == 0) q k A S m = some l) : ∃ o, xldi q L st k = some o ∧ aout W E h l o := by
  obtain ⟨a, v, ht, hv, hd, ho⟩ := azld_at hg ha
  obtain ⟨x, rfl, -⟩ := ga_int (by simpa using ht) hv
  exact ⟨_, by simp only [xldi, hd], ho⟩
theorem azldl_ok (hg : gss W E A S m L st h) (ha : azld (fun t => t == 1) q k A S m = some l) : ∃ o, xldl q L st k = some o ∧ aout W E h l o := by
  obtain ⟨a, v, ht, hv, hd, ho⟩ := azld_at hg ha
  unfold ga at hv
  rw [show a.1 = 1 by simpa using ht] at hv
  obtain ⟨x, rfl⟩ := hv
  exact ⟨_, by simp only [xldl, hd], ho⟩
theorem azlda_ok (hg : gss W E A S m L st h) (ha : azld aisr q k A S m = some l) : ∃ o, xlda q L st k = some o ∧ aout W E h l o := by
  obtain ⟨a, v, ht, hv, hd, ho⟩ := azld_at hg ha
  rcases ga_ref ht hv with rfl | ⟨x, rfl⟩
  · exact ⟨_, by simp only [xlda, hd], ho⟩
  · exact ⟨_, by simp only [xlda, hd], ho⟩
theorem azst_at {t : Nat → Bool} (hg : gss W E A S m L st h) (ha : azst t q k A S m = some l) : ∃ a v r, t a.1 = true ∧ ga W a v ∧ st = v :: r ∧ k < L.length ∧ xfree L k = true ∧ aout W E h l (q, L.set k (some v), r) := by
  unfold azst at ha
  split at ha
  · rename_i a S2
    split at ha
    · rename_i hc
      cases ha
      obtain ⟨v, r, rfl, hv, hg2⟩ := hg.pop
      exact ⟨a, v, r, hc.1, hv.1, rfl, by rw [← hg.1.1]; exact hc.2.1, afree_ok hg.1 hc.2.2, aout.one (hg2.setL ⟨v, rfl, gv_un hv⟩)⟩
    · cases ha
  · cases ha
theorem azsti_ok (hg : gss W E A S m L st h) (ha : azst (fun t => t == 0) q k A S m = some l) : ∃ o, xsti q L st k = some o ∧ aout W E h l o := by
  obtain ⟨a, v, r, ht, hv, rfl, hk, hf, ho⟩ := azst_at hg ha
  obtain ⟨x, rfl, -⟩ := ga_int (by simpa using ht) hv
  exact ⟨_, by simp only [xsti]; rw [if_pos ⟨hk, hf⟩], ho⟩
theorem azsta_ok (hg : gss W E A S m L st h) (ha : azst aisr q k A S m = some l) : ∃ o, xsta q L st k = some o ∧ aout W E h l o := by
  obtain ⟨a, v, r, ht, hv, rfl, hk, hf, ho⟩ := azst_at hg ha
  rcases ga_ref ht hv with rfl | ⟨x, rfl⟩
  · exact ⟨_, by simp only [xsta]; rw [if_pos ⟨hk, hf⟩], ho⟩
  · exact ⟨_, by simp only [xsta]; rw [if_pos ⟨hk, hf⟩], ho⟩
theorem azb2_ok {f : AV → AV → Option AV} {g : Int32 → Int32 → Int32} (hf : ∀ a b c x y, f a b = some c → a.1 = 0 → b.1 = 0 → gv W E L h a (.int x) → gv W E L h b (.int y) → gv W E L h c (.int (g x y))) (hg : gss W E A S m L st h) (ha : azb2 f q A S m = some l) : ∃ o, xb2 g q L st = some o ∧ aout W E h l o := by
  unfold azb2 at ha
  split at ha
  · rename_i b a S2
    split at ha
    · rename_i hc
      split at ha
      · rename_i c hcc
        cases ha
        obtain ⟨v, r, rfl, hv, hg2⟩ := hg.pop
        obtain ⟨u, r2, rfl, hu, hg3⟩ := hg2.pop
        obtain ⟨y, rfl, -⟩ := ga_int hc.2 hv.1
        obtain ⟨x, rfl, -⟩ := ga_int hc.1 hu.1
        exact ⟨_, rfl, aout.one (hg3.push (hf a b c x y hcc hc.1 hc.2 hu hv))⟩
      · cases ha
    · cases ha
  · cases ha
theorem azl2_ok {g : Int64 → Int64 → Int64} (hg : gss W E A S m L st h) (ha : azl2 q A S m = some l) : ∃ o, xl2 g q L st = some o ∧ aout W E h l o := by
  unfold azl2 at ha
  split at ha
  · rename_i b a S2
    split at ha
    · rename_i hc
      cases ha
      obtain ⟨v, r, rfl, hv, hg2⟩ := hg.pop
      obtain ⟨u, r2, rfl, hu, hg3⟩ := hg2.pop
      have hv1 := hv.1
      have hu1 := hu.1
      unfold ga at hv1 hu1
      rw [hc.2] at hv1
      rw [hc.1] at hu1
      obtain ⟨y, rfl⟩ := hv1
      obtain ⟨x, rfl⟩ := hu1
      exact ⟨_, rfl, aout.one (hg3.push (gv_L _))⟩
    · cases ha
  · cases ha
theorem azls_ok {g : Int64 → Int32 → Int64} (hg : gss W E A S m L st h) (ha : azls q A S m = some l) : ∃ o, xls g q L st = some o ∧ aout W E h l o := by
  unfold azls at ha
  split at ha
  · rename_i b a S2
    split at ha
    · rename_i hc
      cases ha
      obtain ⟨v, r, rfl, hv, hg2⟩ := hg.pop
      obtain ⟨u, r2, rfl, hu, hg3⟩ := hg2.pop
      have hu1 := hu.1
      unfold ga at hu1
      rw [hc.1] at hu1
      obtain ⟨y, rfl, -⟩ := ga_int hc.2 hv.1
      obtain ⟨x, rfl⟩ := hu1
      exact ⟨_, rfl, aout.one (hg3.push (gv_L _))⟩
    · cases ha
  · cases ha
end AZ
