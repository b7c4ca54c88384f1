/-! sets of people as bits -/
theorem lvB_ext {x y : Int32} (h : ∀ i, i < 32 → (lvB x i ↔ lvB y i)) : x = y := by
  rw [← Int32.toBitVec_inj]
  refine BitVec.eq_of_getLsbD_eq fun i hi => ?_
  have := h i hi
  rw [lvB_iff hi, lvB_iff hi] at this
  exact Bool.eq_iff_iff.mpr this
theorem lvB_and {x y : Int32} {i : Nat} (hi : i < 32) : lvB (x &&& y) i ↔ lvB x i ∧ lvB y i := by
  rw [lvB_iff hi, lvB_iff hi, lvB_iff hi, Int32.toBitVec_and, BitVec.getLsbD_and]
  simp
theorem lvB_or2 {x y : Int32} {i : Nat} (hi : i < 32) : lvB (x ||| y) i ↔ lvB x i ∨ lvB y i := by
  rw [lvB_iff hi, lvB_iff hi, lvB_iff hi, Int32.toBitVec_or, BitVec.getLsbD_or]
  simp
theorem lvB_sh {i j : Nat} (hi : i < 32) (hj : j < 32) : lvB (Int32.ofInt 1 <<< (nI j &&& 31)) i ↔ i = j := by
  rw [lvB_iff hi, sh1 hj, sh1_bit hi]
  simp
theorem lvB_zero {i : Nat} (hi : i < 32) : ¬ lvB (0 : Int32) i := lvB_z hi
theorem eq_zero {x : Int32} : x = 0 ↔ ∀ i, i < 32 → ¬ lvB x i := by
  constructor
  · intro e
    subst e
    exact fun i hi => lvB_zero hi
  · intro h
    exact lvB_ext fun i hi => ⟨fun z => absurd z (h i hi), fun z => absurd z (lvB_zero hi)⟩
theorem bset_bit {P : Nat → Bool} : ∀ (k i : Nat), k ≤ 32 → i < 32 → (lvB (bset P k) i ↔ i < k ∧ P i = true)
  | 0, i, _, hi => ⟨fun z => absurd z (lvB_z hi), fun z => by omega⟩
  | k + 1, i, hk, hi => by
    unfold bset
    rw [lvB_or2 hi, bset_bit k i (by omega) hi]
    by_cases hP : P k = true
    · rw [if_pos hP, lvB_sh hi (by omega)]
      constructor
      · rintro (z | z)
        · exact ⟨by omega, z.2⟩
        · rw [z]
          exact ⟨by omega, hP⟩
      · rintro ⟨z1, z2⟩
        by_cases e : i = k
        · exact Or.inr e
        · exact Or.inl ⟨by omega, z2⟩
    · rw [if_neg hP]
      constructor
      · rintro (z | z)
        · exact ⟨by omega, z.2⟩
        · exact absurd z (lvB_z hi)
      · rintro ⟨z1, z2⟩
        refine Or.inl ⟨?_, z2⟩
        by_cases e : i = k
        · rw [e] at z2
          exact absurd z2 hP
        · omega
/-- a course of the class says these lives -/
abbrev CFa (f : Nat → Int32) (n m : Nat) (s : LV) (al we de bi ch : Nat → Int32) : Prop :=
  (n ≤ 8) ∧
  (m ≤ 6) ∧
  (∀ t, t ≤ 40 → ∀ i, i < 32 → (lvB (al t) i ↔ i < 14 ∧ alv s i t = true)) ∧
  (∀ t, t ≤ 40 → ∀ i, i < 14 → (lvB (we t) i ↔ (s.2.2.1 i).toInt ≤ (t : Int))) ∧
  (∀ t, t ≤ 40 → ∀ i, i < 4 → (lvB (de t) i ↔ (s.2.2.2 i).toInt ≤ (t : Int))) ∧
  (∀ j, j < 14 → bi j = if j < n then - f (90 + j) else if s.1 j = i99 then c1000 else s.1 j) ∧
  (∀ j, j < 14 → ∀ i, i < 32 → (lvB (ch j) i ↔ chB n m f s j i)) ∧
  (∀ j, j < 14 → lvIn 40 (s.1 j)) ∧
  (∀ j, j < n → 0 ≤ (f (90 + j)).toInt ∧ (f (90 + j)).toInt ≤ 90) ∧
  (∀ j, j < 8 → s.1 j = if j < n then Int32.ofInt 0 else i99)
theorem CFa.n8 {f : Nat → Int32} {n m : Nat} {s : LV} {al we de bi ch : Nat → Int32} (u : CFa f n m s al we de bi ch) : n ≤ 8 := u.1
theorem CFa.m6 {f : Nat → Int32} {n m : Nat} {s : LV} {al we de bi ch : Nat → Int32} (u : CFa f n m s al we de bi ch) : m ≤ 6 := u.2.1
theorem CFa.a {f : Nat → Int32} {n m : Nat} {s : LV} {al we de bi ch : Nat → Int32} (u : CFa f n m s al we de bi ch) : ∀ t, t ≤ 40 → ∀ i, i < 32 → (lvB (al t) i ↔ i < 14 ∧ alv s i t = true) := u.2.2.1
theorem CFa.w {f : Nat → Int32} {n m : Nat} {s : LV} {al we de bi ch : Nat → Int32} (u : CFa f n m s al we de bi ch) : ∀ t, t ≤ 40 → ∀ i, i < 14 → (lvB (we t) i ↔ (s.2.2.1 i).toInt ≤ (t : Int)) := u.2.2.2.1
theorem CFa.d {f : Nat → Int32} {n m : Nat} {s : LV} {al we de bi ch : Nat → Int32} (u : CFa f n m s al we de bi ch) : ∀ t, t ≤ 40 → ∀ i, i < 4 → (lvB (de t) i ↔ (s.2.2.2 i).toInt ≤ (t : Int)) := u.2.2.2.2.1
theorem CFa.b {f : Nat → Int32} {n m : Nat} {s : LV} {al we de bi ch : Nat → Int32} (u : CFa f n m s al we de bi ch) : ∀ j, j < 14 → bi j = if j < n then - f (90 + j) else if s.1 j = i99 then c1000 else s.1 j := u.2.2.2.2.2.1
theorem CFa.c {f : Nat → Int32} {n m : Nat} {s : LV} {al we de bi ch : Nat → Int32} (u : CFa f n m s al we de bi ch) : ∀ j, j < 14 → ∀ i, i < 32 → (lvB (ch j) i ↔ chB n m f s j i) := u.2.2.2.2.2.2.1
theorem CFa.v {f : Nat → Int32} {n m : Nat} {s : LV} {al we de bi ch : Nat → Int32} (u : CFa f n m s al we de bi ch) : ∀ j, j < 14 → lvIn 40 (s.1 j) := u.2.2.2.2.2.2.2.1
theorem CFa.ag {f : Nat → Int32} {n m : Nat} {s : LV} {al we de bi ch : Nat → Int32} (u : CFa f n m s al we de bi ch) : ∀ j, j < n → 0 ≤ (f (90 + j)).toInt ∧ (f (90 + j)).toInt ≤ 90 := u.2.2.2.2.2.2.2.2.1
theorem CFa.b8 {f : Nat → Int32} {n m : Nat} {s : LV} {al we de bi ch : Nat → Int32} (u : CFa f n m s al we de bi ch) : ∀ j, j < 8 → s.1 j = if j < n then Int32.ofInt 0 else i99 := u.2.2.2.2.2.2.2.2.2
section CF
variable {f : Nat → Int32} {n m : Nat} {s : LV} {al we de bi ch : Nat → Int32}
theorem alv_iff {p y : Nat} : alv s p y = true ↔ (s.1 p).toInt ≤ (y : Int) ∧ (y : Int) < (s.2.1 p).toInt := decide_eq_true_iff
theorem alv_99 {p y : Nat} (hy : y ≤ 40) (h : alv s p y = true) : ¬ s.1 p = i99 := fun e => by
  have := (alv_iff.mp h).1
  rw [e, i99_int] at this
  omega
theorem cf_born (F : CFa f n m s al we de bi ch) {p y : Nat} (hp : p < 14) (hy : y ≤ 40) (h : alv s p y = true) : (p < 8 ∧ p < n ∧ bi p = - f (90 + p)) ∨ (8 ≤ p ∧ bi p = s.1 p ∧ 0 ≤ (s.1 p).toInt ∧ (s.1 p).toInt ≤ 40) := by
  have n9 := alv_99 hy h
  have e := F.b p hp
  by_cases p8 : p < 8
  · have e2 := F.b8 p p8
    by_cases pn : p < n
    · rw [if_pos pn] at e
      exact Or.inl ⟨p8, pn, e⟩
    · rw [if_neg pn] at e2
      exact absurd e2 n9
  · have := F.n8
    rw [if_neg (by omega), if_neg n9] at e
    exact Or.inr ⟨by omega, e, (F.v p hp).resolve_left n9⟩
theorem cf_kid (F : CFa f n m s al we de bi ch) {o p y : Nat} (ho : o < 14) (hp : p < 32) (hy : y ≤ 40) : (lvB (ch o) p ∧ lvB (al y) p) ↔ p < 14 ∧ kid f n m p o = true ∧ alv s p y = true := by
  rw [F.c o ho p hp, F.a y hy p hp]
  have h8 := F.n8
  have h6 := F.m6
  unfold chB kid
  constructor
  · rintro ⟨z, z1, z2⟩
    refine ⟨z1, ?_, z2⟩
    rcases z with ⟨a, b⟩ | ⟨a, b, c, d, e⟩
    · rw [if_pos (by omega)]
      exact dec_t ⟨a, b⟩
    · rw [if_neg (by omega)]
      exact dec_t ⟨by omega, d, e⟩
  · rintro ⟨z1, z, z2⟩
    refine ⟨?_, z1, z2⟩
    by_cases p8 : p < 8
    · rw [if_pos p8] at z
      exact Or.inl (of_decide_eq_true z)
    · rw [if_neg p8] at z
      have z := of_decide_eq_true z
      exact Or.inr ⟨by omega, by omega, alv_99 hy z2, z.2⟩
theorem neg_sub_le {a y x : Int32} (ha : 0 ≤ a.toInt ∧ a.toInt ≤ 90) (hy : 0 ≤ y.toInt ∧ y.toInt ≤ 40) (hx : rg 99 x) : - a ≤ y - x ↔ x ≤ a + y := by
  have x0 := hx.1
  have x9 := hx.2
  have e1 : (- a).toInt = - a.toInt := by
    rw [← Int32.zero_sub, i32_sub (by rw [z0_int]; omega) (by rw [z0_int]; omega), z0_int]
    omega
  rw [Int32.le_iff_toInt_le, Int32.le_iff_toInt_le, e1, i32_sub (by omega) (by omega), i32_add (by omega) (by omega)]
  omega
theorem sub_le' {b y x : Int32} (hb : 0 ≤ b.toInt ∧ b.toInt ≤ 40) (hy : 0 ≤ y.toInt ∧ y.toInt ≤ 40) (hx : rg 99 x) : b ≤ y - x ↔ x ≤ y - b := by
  have x0 := hx.1
  have x9 := hx.2
  rw [Int32.le_iff_toInt_le, Int32.le_iff_toInt_le, i32_sub (by omega) (by omega), i32_sub (by omega) (by omega)]
  omega
/-- whom a COND holds for, of those alive -/
theorem cf_meet (F : CFa f n m s al we de bi ch) {T k x l x2 : Int32} {y : Nat} (hy : y ≤ 40) (hT : ∀ i, i < 32 → lvB T i → i < 14 ∧ alv s i y = true) (hz : ZC k x l x2) {i : Nat} (hi : i < 32) : lvB (meC we de bi T l x2 y) i ↔ lvB T i ∧ hold f s k x i y = true := by
  unfold meC hold
  rcases hz with ⟨k0, l0, ex⟩ | ⟨ex, hz⟩
  · subst k0
    subst l0
    rw [if_neg (by decide), if_neg (by decide), if_neg (by decide), if_neg (by decide), if_neg (by decide), if_neg (by decide)]
    simp
  · subst ex
    rcases hz with ⟨k0, l0⟩ | ⟨k0, l0, hr⟩ | ⟨k0, l0, hr⟩
    · subst k0
      subst l0
      rw [if_pos rfl, if_neg (by decide), if_pos rfl, lvB_and hi, decide_eq_true_iff]
      constructor
      · rintro ⟨a, b⟩
        exact ⟨a, (F.w y hy i (hT i hi a).1).mp b⟩
      · rintro ⟨a, b⟩
        exact ⟨a, (F.w y hy i (hT i hi a).1).mpr b⟩
    · subst k0
      subst l0
      rw [if_neg (by decide), if_neg (by decide), if_pos rfl, if_pos rfl, lvB_and hi, bset_bit 14 i (by decide) hi, decide_eq_true_iff, Bool.and_eq_true, decide_eq_true_iff]
      have yy : 0 ≤ (nI y).toInt ∧ (nI y).toInt ≤ 40 := by rw [nI_toInt (by omega)]; omega
      have key : lvB T i → (bi i ≤ nI y - x2 ↔ x2 ≤ ageS f s i y) := fun a => by
        obtain ⟨h14, ha⟩ := hT i hi a
        unfold ageS
        rcases cf_born F h14 hy ha with ⟨q1, q2, q3⟩ | ⟨q1, q2, q3⟩
        · rw [q3, if_pos q1]
          exact neg_sub_le (F.ag i q2) yy hr
        · rw [q2, if_neg (by omega)]
          exact sub_le' q3 yy hr
      constructor
      · rintro ⟨a, b, c⟩
        exact ⟨a, (hT i hi a).2, (key a).mp c⟩
      · rintro ⟨a, b, c⟩
        exact ⟨a, (hT i hi a).1, (key a).mpr c⟩
    · subst k0
      subst l0
      obtain ⟨x1, lx⟩ := i32_nI hr.1 hr.2
      have e4 := F.d y hy x2.toNatClampNeg (by omega)
      have e5 : (de y >>> (x2 &&& 31)) &&& Int32.ofInt 1 = Int32.ofInt 1 ↔ lvB (de y) x2.toNatClampNeg := by
        unfold lvB
        rw [← x1]
      have m1 : meC we de bi T (Int8.ofInt 100).toInt32 x2 y = if (de y >>> (x2 &&& 31)) &&& Int32.ofInt 1 = Int32.ofInt 1 then T else Int32.ofInt 0 := (if_neg (by decide)).trans (if_pos rfl)
      have m2 : hold f s (Int32.ofInt 3) x2 i y = decide ((s.2.2.2 x2.toNatClampNeg).toInt ≤ (y : Int)) := (if_neg (by decide)).trans ((if_neg (by decide)).trans (if_pos rfl))
      show lvB (meC we de bi T (Int8.ofInt 100).toInt32 x2 y) i ↔ lvB T i ∧ hold f s (Int32.ofInt 3) x2 i y = true
      rw [m1, m2, decide_eq_true_iff, ← e4]
      by_cases q : lvB (de y) x2.toNatClampNeg
      · rw [if_pos (e5.mpr q)]
        exact ⟨fun z => ⟨z, q⟩, fun z => z.1⟩
      · rw [if_neg (fun z => q (e5.mp z))]
        exact ⟨fun z => absurd z (lvB_z hi), fun z => absurd z.2 q⟩
/-- the eldest -/
theorem cf_eld (F : CFa f n m s al we de bi ch) {S : Int32} {y : Nat} (hy : y ≤ 40) (hS : ∀ i, i < 32 → lvB S i → i < 14 ∧ alv s i y = true) : ∀ k, k ≤ 14 → fbC bi S k = eldS f s S k ∧ ∀ b, eldS f s S k = some b → b < k ∧ lvB S b
  | 0, _ => ⟨rfl, fun b e => by cases e⟩
  | k + 1, hk => by
    obtain ⟨i1, i2⟩ := cf_eld F hy hS k (by omega)
    have key : lvB S k → fbP bi k (eldS f s S k) = eldP f s k (eldS f s S k) := fun hk2 => by
      cases e : eldS f s S k with
      | none => rfl
      | some b =>
        obtain ⟨lb, sb⟩ := i2 b e
        show decide (bi k < bi b) = oldS f s k b
        obtain ⟨-, ak⟩ := hS k (by omega) hk2
        obtain ⟨-, ab⟩ := hS b (by omega) sb
        unfold oldS
        rcases cf_born F (show k < 14 by omega) hy ak with ⟨k8, kn, kb⟩ | ⟨k8, kb, k0, -⟩
        · rcases cf_born F (show b < 14 by omega) hy ab with ⟨b8, bn, bb⟩ | ⟨b8, bb, b0, -⟩
          · rw [if_pos ⟨k8, b8⟩, kb, bb]
            refine decide_eq_decide.mpr ?_
            have a1 := F.ag k kn
            have a2 := F.ag b bn
            have n1 : ∀ a : Int32, 0 ≤ a.toInt ∧ a.toInt ≤ 90 → (- a).toInt = - a.toInt := fun a ha => by
              rw [← Int32.zero_sub, i32_sub (by rw [z0_int]; omega) (by rw [z0_int]; omega), z0_int]
              omega
            rw [Int32.lt_iff_toInt_lt, Int32.lt_iff_toInt_lt, n1 _ a1, n1 _ a2]
            constructor
            · exact fun z => Or.inl (by omega)
            · rintro (z | z) <;> omega
          · omega
        · rcases cf_born F (show b < 14 by omega) hy ab with ⟨b8, bn, bb⟩ | ⟨b8, bb, b0, -⟩
          · rw [if_neg (by omega), if_pos (Or.inr b8), kb, bb, dec_f (show ¬ k < 8 by omega)]
            refine dec_f fun z => ?_
            have a2 := F.ag b bn
            have n1 : (- f (90 + b)).toInt = - (f (90 + b)).toInt := by
              rw [← Int32.zero_sub, i32_sub (by rw [z0_int]; omega) (by rw [z0_int]; omega), z0_int]
              omega
            rw [Int32.lt_iff_toInt_lt, n1] at z
            omega
          · rw [if_neg (by omega), if_neg (by omega), kb, bb]
            refine decide_eq_decide.mpr ⟨fun z => Or.inl z, ?_⟩
            rintro (z | z)
            · exact z
            · omega
    unfold fbC eldS
    rw [i1]
    by_cases c : lvB S k ∧ fbP bi k (eldS f s S k) = true
    · rw [if_pos c, if_pos ⟨c.1, by rw [← key c.1]; exact c.2⟩]
      exact ⟨rfl, fun b e => by cases e; exact ⟨by omega, c.1⟩⟩
    · rw [if_neg c, if_neg (fun z => c ⟨z.1, by rw [key z.1]; exact z.2⟩)]
      exact ⟨rfl, fun b e => by have := i2 b e; exact ⟨by omega, this.2⟩⟩
theorem eld_none {S : Int32} : ∀ k, eldS f s S k = none → ∀ i, i < k → ¬ lvB S i
  | 0, _, i, hi => by omega
  | k + 1, e, i, hi => by
    unfold eldS at e
    split at e
    · cases e
    · rename_i c
      have e0 := eld_none k e
      by_cases ik : i = k
      · subst ik
        intro z
        rw [e] at c
        exact c ⟨z, rfl⟩
      · exact e0 i (by omega)
end CF
/-! a clause's takers and whether it fails: the same on both sides -/
theorem zc_3 {k x l x2 : Int32} (h : ZC k x l x2) (e : k = Int32.ofInt 3) : rg 3 x := by
  rcases h with ⟨k0, -, -⟩ | ⟨-, ⟨k0, -⟩ | ⟨k0, -, -⟩ | ⟨k0, -, r⟩⟩
  · rw [e] at k0; exact absurd k0 (by decide)
  · rw [e] at k0; exact absurd k0 (by decide)
  · rw [e] at k0; exact absurd k0 (by decide)
  · exact r
theorem clr_cb {f Lt Nt : Nat → Int32} {a c : Nat} (h : CLR f a Lt Nt c) (ha : a + 8 ≤ 490) : CB f a := ⟨ha, h.2.1.2.1, zc_3 h.1, zc_3 h.2.2.2, h.2.2.1.2.1⟩
theorem zc_0 {k x l x2 : Int32} (h : ZC k x l x2) : l = 0 ↔ k = 0 := by
  rcases h with ⟨rfl, rfl, -⟩ | ⟨-, ⟨rfl, rfl⟩ | ⟨rfl, rfl, -⟩ | ⟨rfl, rfl, -⟩⟩ <;> decide
theorem zc_d {k x l x2 : Int32} (h : ZC k x l x2) : l = (Int8.ofInt 100).toInt32 ↔ k = Int32.ofInt 3 := by
  rcases h with ⟨rfl, rfl, -⟩ | ⟨-, ⟨rfl, rfl⟩ | ⟨rfl, rfl, -⟩ | ⟨rfl, rfl, -⟩⟩ <;> decide
theorem zc_n {k x l x2 : Int32} (h : ZC k x l x2) : x2 = x := by
  rcases h with ⟨-, -, e⟩ | ⟨e, -⟩
  · exact e
  · exact e
theorem tk_e {k x l x2 : Int32} (h : TK k x l x2) : l = (Int8.ofInt 101).toInt32 ↔ k = Int32.ofInt 1 := by
  obtain ⟨-, -, ⟨rfl, rfl⟩ | ⟨rfl, rfl⟩ | ⟨rfl, rfl⟩⟩ := h <;> decide
theorem tk_y {k x l x2 : Int32} (h : TK k x l x2) : l = (Int8.ofInt 121).toInt32 ↔ k = Int32.ofInt 2 := by
  obtain ⟨-, -, ⟨rfl, rfl⟩ | ⟨rfl, rfl⟩ | ⟨rfl, rfl⟩⟩ := h <;> decide
section CF
variable {f : Nat → Int32} {n m : Nat} {s : LV} {al we de bi ch Lt Nt : Nat → Int32}
/-- children of one, alive, for whom an if holds: as the class counts them -/
theorem cf_ch (F : CFa f n m s al we de bi ch) {o y : Nat} {k x l x2 : Int32} (ho : o < 14) (hy : y ≤ 40) (hz : ZC k x l x2) : meC we de bi (ch o &&& al y) l x2 y = chS f n m s o k x y := by
  have hT : ∀ i, i < 32 → lvB (ch o &&& al y) i → i < 14 ∧ alv s i y = true := fun i hi z => (F.a y hy i hi).mp ((lvB_and hi).mp z).2
  refine lvB_ext fun i hi => ?_
  rw [cf_meet F hy hT hz hi, lvB_and hi, cf_kid F ho hi hy]
  unfold chS
  rw [bset_bit 14 i (by decide) hi, Bool.and_eq_true, Bool.and_eq_true]
  exact ⟨fun ⟨⟨a, b, c⟩, d⟩ => ⟨a, b, c, d⟩, fun ⟨a, b, c, d⟩ => ⟨⟨a, b, c⟩, d⟩⟩
theorem chS_in {o y : Nat} {k x : Int32} {i : Nat} (hi : i < 32) (h : lvB (chS f n m s o k x y) i) : i < 14 ∧ alv s i y = true := by
  unfold chS at h
  rw [bset_bit 14 i (by decide) hi, Bool.and_eq_true, Bool.and_eq_true] at h
  exact ⟨h.1, h.2.2.1⟩
theorem cf_tk (F : CFa f n m s al we de bi ch) {a c y : Nat} (hc : CLR f a Lt Nt c) (hy : y ≤ 40) : tkC Lt Nt al we de bi ch c y = tkS f n m s a y := by
  obtain ⟨-, ⟨en, ro, hk⟩, -, hz⟩ := hc
  obtain ⟨eo, lo⟩ := i32_nI ro.1 ro.2
  have ho : (f (a + 3)).toNatClampNeg < 14 := by omega
  unfold tkC nmC tkS
  rw [en]
  generalize (f (a + 3)).toNatClampNeg = o at eo lo ho ⊢
  rw [eo]
  rcases hk with ⟨k0, l0⟩ | ⟨k0, l0⟩ | ⟨k0, l0⟩
  · rw [k0, l0, if_neg (by decide), if_pos rfl, if_pos (show Int32.ofInt 0 = (0 : Int32) from rfl)]
    have bit : ∀ i, i < 32 → (lvB ((Int32.ofInt 1 <<< (nI o &&& 31)) &&& al y) i ↔ i = o ∧ alv s o y = true) := fun i hi => by
      rw [lvB_and hi, lvB_sh hi (by omega), F.a y hy i hi]
      exact ⟨fun ⟨q1, q2, q3⟩ => ⟨q1, by rw [← q1]; exact q3⟩, fun ⟨q1, q2⟩ => ⟨q1, by omega, by rw [q1]; exact q2⟩⟩
    refine lvB_ext fun i hi => ?_
    rw [cf_meet F hy (fun i hi z => by have := (bit i hi).mp z; exact ⟨by omega, by rw [this.1]; exact this.2⟩) hz hi, bit i hi]
    by_cases q : (alv s o y && hold f s (f (a + 6)) (f (a + 7)) o y) = true
    · rw [if_pos q, lvB_sh hi (by omega)]
      rw [Bool.and_eq_true] at q
      exact ⟨fun z => z.1.1, fun z => ⟨⟨z, q.1⟩, by rw [z]; exact q.2⟩⟩
    · rw [if_neg q]
      refine ⟨fun z => absurd ?_ q, fun z => absurd z (lvB_z hi)⟩
      rw [Bool.and_eq_true]
      exact ⟨z.1.2, by rw [← z.1.1]; exact z.2⟩
  · rw [k0, l0, if_pos rfl, if_neg (by decide), if_neg (by decide), cf_ch F ho hy hz]
    have hS := fun i (hi : i < 32) (h : lvB (chS f n m s o (f (a + 6)) (f (a + 7)) y) i) => chS_in hi h
    have hS2 : ∀ i, lvB (chS f n m s o (f (a + 6)) (f (a + 7)) y) i → i < 32 → i < 14 := fun i h hi => (hS i hi h).1
    generalize chS f n m s o (f (a + 6)) (f (a + 7)) y = S at hS hS2 ⊢
    obtain ⟨e1, e2⟩ := cf_eld F hy hS 14 (by decide)
    rw [e1]
    cases e : eldS f s S 14 with
    | none =>
      have z : S = 0 := eq_zero.mpr fun i hi h => eld_none 14 e i (hS2 i h hi) h
      rw [if_pos (Or.inl z), z]
      rfl
    | some b =>
      have hb := e2 b e
      have z : ¬ S = 0 := fun z => eq_zero.mp z b (by omega) hb.2
      rw [if_neg (fun q => q.elim z (by decide))]
      rfl
  · rw [k0, l0, if_neg (by decide), if_neg (by decide), if_neg (by decide), cf_ch F ho hy hz, if_pos (Or.inr rfl)]
theorem cf_fa (F : CFa f n m s al we de bi ch) {a c y : Nat} (hc : CLR f a Lt Nt c) (hy : y ≤ 40) : faC Lt Nt al ch c y = faS f n m s a y := by
  obtain ⟨-, ⟨en, ro, hk⟩, -, hz⟩ := hc
  obtain ⟨eo, lo⟩ := i32_nI ro.1 ro.2
  have ho : (f (a + 3)).toNatClampNeg < 14 := by omega
  unfold faC nmC faS
  rw [en]
  generalize (f (a + 3)).toNatClampNeg = o at eo lo ho ⊢
  rw [eo]
  have one : ∀ i, i < 32 → (lvB ((Int32.ofInt 1 <<< (nI o &&& 31)) &&& al y) i ↔ i = o ∧ alv s o y = true) := fun i hi => by
    rw [lvB_and hi, lvB_sh hi (by omega), F.a y hy i hi]
    exact ⟨fun ⟨q1, q2, q3⟩ => ⟨q1, by rw [← q1]; exact q3⟩, fun ⟨q1, q2⟩ => ⟨q1, by omega, by rw [q1]; exact q2⟩⟩
  have hch : meC we de bi (ch o &&& al y) (Int32.ofInt 0) (Int32.ofInt 0) y = chS f n m s o (Int32.ofInt 0) (Int32.ofInt 0) y := cf_ch F ho hy (Or.inl ⟨rfl, rfl, rfl⟩)
  have m0 : meC we de bi (ch o &&& al y) (Int32.ofInt 0) (Int32.ofInt 0) y = ch o &&& al y := (if_neg (by decide)).trans ((if_neg (by decide)).trans (if_neg (by decide)))
  rw [m0] at hch
  have two : ∀ N : Int32, (N ||| (Int32.ofInt 1 <<< (nI o &&& 31))) &&& al y = 0 ↔ alv s o y = false ∧ N &&& al y = 0 := fun N => by
    rw [eq_zero, eq_zero]
    constructor
    · intro h
      refine ⟨?_, fun i hi z => h i hi ?_⟩
      · cases q : alv s o y
        · rfl
        · exfalso
          refine h o (by omega) ((lvB_and (by omega)).mpr ⟨(lvB_or2 (by omega)).mpr (Or.inr ((lvB_sh (by omega) (by omega)).mpr rfl)), (F.a y hy o (by omega)).mpr ⟨ho, q⟩⟩)
      · have := (lvB_and hi).mp z
        exact (lvB_and hi).mpr ⟨(lvB_or2 hi).mpr (Or.inl this.1), this.2⟩
    · rintro ⟨h1, h2⟩ i hi z
      have z2 := (lvB_and hi).mp z
      rcases (lvB_or2 hi).mp z2.1 with q | q
      · exact h2 i hi ((lvB_and hi).mpr ⟨q, z2.2⟩)
      · have := (lvB_sh hi (by omega)).mp q
        have h3 := (F.a y hy i hi).mp z2.2
        rw [this, h1] at h3
        exact Bool.false_ne_true h3.2
  rcases hk with ⟨k0, l0⟩ | ⟨k0, l0⟩ | ⟨k0, l0⟩
  · rw [k0, l0, if_pos rfl, dec_t (show Int32.ofInt 0 = 0 from rfl)]
    refine Bool.eq_iff_iff.mpr ?_
    rw [decide_eq_true_iff, two]
    cases q : alv s o y
    · refine ⟨fun _ => rfl, fun _ => ⟨rfl, eq_zero.mpr fun i hi z => ?_⟩⟩
      have := (one i hi).mp z
      rw [q] at this
      exact Bool.false_ne_true this.2
    · exact ⟨fun z => absurd z.1 (by decide), fun z => absurd (show false = true from z) Bool.false_ne_true⟩
  · rw [k0, l0, if_neg (by decide), dec_f (show ¬ Int32.ofInt 1 = 0 by decide), ← hch]
    refine Bool.eq_iff_iff.mpr ?_
    rw [decide_eq_true_iff, two]
    cases q : alv s o y
    · exact ⟨fun z => dec_t z.2, fun z => ⟨rfl, of_decide_eq_true z⟩⟩
    · exact ⟨fun z => absurd z.1 (by decide), fun z => absurd (show false = true from z) Bool.false_ne_true⟩
  · rw [k0, l0, if_neg (by decide), dec_f (show ¬ Int32.ofInt 2 = 0 by decide), ← hch]
    refine Bool.eq_iff_iff.mpr ?_
    rw [decide_eq_true_iff, two]
    cases q : alv s o y
    · exact ⟨fun z => dec_t z.2, fun z => ⟨rfl, of_decide_eq_true z⟩⟩
    · exact ⟨fun z => absurd z.1 (by decide), fun z => absurd (show false = true from z) Bool.false_ne_true⟩
theorem cf_nx {g nc : Nat} (hC : ∀ c, c < nc → CLR f (atC g c) Lt Nt c) : ∀ (q c : Nat), c + q ≤ nc → nxC Lt q c = nxS f g q c
  | 0, _, _ => rfl
  | q + 1, c, h => by
    unfold nxC nxS
    rw [cf_nx hC q (c + 1) (by omega)]
    have e := zc_0 (hC c (by omega)).1
    by_cases z : f (atC g c) = 0
    · rw [if_pos z, if_pos (e.mpr z)]
    · rw [if_neg z, if_neg (fun w => z (e.mp w))]
theorem cf_sh (F : CFa f n m s al we de bi ch) {g nc y : Nat} (hy : y ≤ 40) (hC : ∀ c, c < nc → CLR f (atC g c) Lt Nt c) : ∀ (q c : Nat), c + q ≤ nc → shC Lt Nt de y q c = shS f s g y q c
  | 0, _, _ => rfl
  | q + 1, c, h => by
    unfold shC shS
    rw [cf_sh F hy hC q (c + 1) (by omega)]
    have hz := (hC c (by omega)).1
    have e := zc_d hz
    have en := zc_n hz
    rw [en]
    have key : (Lt (4 * c) = (Int8.ofInt 100).toInt32 ∧ (de y >>> (f (atC g c + 1) &&& 31)) &&& Int32.ofInt 1 = Int32.ofInt 1) ↔ (f (atC g c) = Int32.ofInt 3 ∧ (s.2.2.2 (f (atC g c + 1)).toNatClampNeg).toInt ≤ (y : Int)) := by
      rw [e]
      constructor
      · rintro ⟨a, b⟩
        obtain ⟨x1, lx⟩ := i32_nI (zc_3 hz a).1 (zc_3 hz a).2
        refine ⟨a, (F.d y hy _ (by omega)).mp ?_⟩
        unfold lvB
        rw [← x1]
        exact b
      · rintro ⟨a, b⟩
        obtain ⟨x1, lx⟩ := i32_nI (zc_3 hz a).1 (zc_3 hz a).2
        refine ⟨a, ?_⟩
        have q := (F.d y hy _ (by omega)).mpr b
        unfold lvB at q
        rw [← x1] at q
        exact q
    by_cases z : f (atC g c) = Int32.ofInt 3 ∧ (s.2.2.2 (f (atC g c + 1)).toNatClampNeg).toInt ≤ (y : Int)
    · rw [if_pos z, if_pos (key.mpr z)]
    · rw [if_neg z, if_neg (fun w => z (key.mp w))]
end CF
/-! both sides' runs go alike -/
/-- those that have, against those that took: up to year y -/
def HV (f : Nat → Int32) (s : LV) (al : Nat → Int32) (g c y : Nat) (t hv : Int32) : Prop := (∀ i, i < 32 → lvB t i → i < 14) ∧ if f (atC g c + 4) = Int32.ofInt 1 then hv = t else ∃ y0, y0 ≤ y ∧ hv = t &&& al y0 ∧ ∀ i, i < 32 → lvB t i → (s.1 i).toInt ≤ (y0 : Int)
/-- a run of the class is a run of the model -/
def RQ (f : Nat → Int32) (s : LV) (al : Nat → Int32) (g nc y : Nat) (σ : GS) (κ : KS) : Prop :=
  (σ.2.1 < nc ∧ κ.1 = σ.2.1) ∧ κ.2.1 = σ.1.isSome ∧ (∀ c, σ.1 = some c → c = σ.2.1) ∧ (∀ j, j < 6 → κ.2.2.2.2 j = σ.2.2.2.2 j) ∧
  (σ.1.isSome = false → κ.2.2.2.1 = 0) ∧ (σ.1.isSome = true → κ.2.2.1 = σ.2.2.1 ∧ (σ.2.2.1 = false → κ.2.2.2.1 = 0) ∧ (σ.2.2.1 = true → ¬ σ.2.2.2.1 = 0 ∧ HV f s al g σ.2.1 y σ.2.2.2.1 κ.2.2.2.1))
/-- and at a year's end the same have the field -/
def RY (f : Nat → Int32) (s : LV) (al : Nat → Int32) (g nc y : Nat) (σ : GS) (κ : KS) : Prop := RQ f s al g nc y σ κ ∧ (σ.1.isSome = true → σ.2.2.1 = true → κ.2.2.2.1 = hsS f s g y σ ∧ ¬ κ.2.2.2.1 = 0)
section CF
variable {f : Nat → Int32} {n m : Nat} {s : LV} {al we de bi ch Lt Nt : Nat → Int32} {g nc : Nat}
theorem RQ.up {y : Nat} {σ : GS} {κ : KS} (h : RQ f s al g nc y σ κ) : RQ f s al g nc (y + 1) σ κ := by
  obtain ⟨a, b, c, d, e, k⟩ := h
  refine ⟨a, b, c, d, e, fun hs => ⟨(k hs).1, (k hs).2.1, fun hb => ⟨((k hs).2.2 hb).1, ?_⟩⟩⟩
  obtain ⟨q1, q2⟩ := ((k hs).2.2 hb).2
  refine ⟨q1, ?_⟩
  by_cases z : f (atC g σ.2.1 + 4) = Int32.ofInt 1
  · rw [if_pos z] at q2 ⊢
    exact q2
  · rw [if_neg z] at q2 ⊢
    obtain ⟨y0, w1, w2, w3⟩ := q2
    exact ⟨y0, by omega, w2, w3⟩
theorem rs_turn {y : Nat} {σ : GS} {κ : KS} (h : ∀ j, j < 6 → κ.2.2.2.2 j = σ.2.2.2.2 j) {c : Nat} (hc : c < nc) : RQ f s al g nc y (rnS (some c) σ) (ttC c κ) := ⟨⟨hc, rfl⟩, rfl, fun c' e => by cases e; rfl, h, fun z => Bool.noConfusion z, fun _ => ⟨rfl, fun _ => rfl, fun z => Bool.noConfusion z⟩⟩
theorem rs_next {y : Nat} {σ : GS} {κ : KS} (h : ∀ j, j < 6 → κ.2.2.2.2 j = σ.2.2.2.2 j) (h1 : σ.2.1 < nc) (h2 : κ.1 = σ.2.1) (hC : ∀ c, c < nc → CLR f (atC g c) Lt Nt c) : RQ f s al g nc y (rnS (nxS f g (nc - (σ.2.1 + 1)) (σ.2.1 + 1)) σ) (tnC Lt nc κ) := by
  unfold tnC
  rw [h2, cf_nx hC (nc - (σ.2.1 + 1)) (σ.2.1 + 1) (by omega)]
  cases e : nxS f g (nc - (σ.2.1 + 1)) (σ.2.1 + 1) with
  | none => exact ⟨⟨h1, rfl⟩, rfl, fun c e => (by cases e), h, fun _ => rfl, fun z => Bool.noConfusion z⟩
  | some c =>
    have := nx_lt _ _ _ e
    exact rs_turn h (by omega)
/-- what is alive of those that took -/
theorem hv_al (F : CFa f n m s al we de bi ch) {y y0 : Nat} {t : Int32} (hy : y ≤ 40) (h0 : y0 ≤ y) (ht : ∀ i, i < 32 → lvB t i → i < 14) (hb : ∀ i, i < 32 → lvB t i → (s.1 i).toInt ≤ (y0 : Int)) : (t &&& al y0) &&& al y = alS s t y := by
  refine lvB_ext fun i hi => ?_
  unfold alS
  rw [bset_bit 14 i (by decide) hi, lvB_and hi, lvB_and hi, F.a y0 (by omega) i hi, F.a y hy i hi, Bool.and_eq_true, decide_eq_true_iff, alv_iff, alv_iff]
  constructor
  · rintro ⟨⟨a, -⟩, b, c⟩
    exact ⟨b, a, c⟩
  · rintro ⟨a, b, c⟩
    have := hb i hi b
    exact ⟨⟨b, a, by omega, by omega⟩, a, c⟩
theorem al_al (F : CFa f n m s al we de bi ch) {y : Nat} {t : Int32} (hy : y ≤ 40) (ht : ∀ i, i < 32 → lvB t i → i < 14) : t &&& al y = alS s t y := by
  refine lvB_ext fun i hi => ?_
  unfold alS
  rw [bset_bit 14 i (by decide) hi, lvB_and hi, F.a y hy i hi, Bool.and_eq_true, decide_eq_true_iff]
  constructor
  · rintro ⟨a, b, c⟩
    exact ⟨b, a, c⟩
  · rintro ⟨a, b, c⟩
    exact ⟨b, a, c⟩
theorem eld_in {S : Int32} : ∀ (k b : Nat), eldS f s S k = some b → lvB S b
  | 0, _, e => by cases e
  | k + 1, b, e => by
    unfold eldS at e
    split at e
    · rename_i c
      cases e
      exact c.1
    · exact eld_in k b e
/-- takers are alive -/
theorem tk_in {a y : Nat} (hr : rg 7 (f (a + 3))) : ∀ i, i < 32 → lvB (tkS f n m s a y) i → i < 14 ∧ alv s i y = true := fun i hi h => by
  obtain ⟨eo, lo⟩ := i32_nI hr.1 hr.2
  unfold tkS at h
  generalize (f (a + 3)).toNatClampNeg = o at eo lo h
  rw [eo] at h
  split at h
  · split at h
    · rename_i q
      have := (lvB_sh hi (by omega)).mp h
      rw [Bool.and_eq_true] at q
      rw [this]
      exact ⟨by omega, q.1⟩
    · exact absurd h (lvB_z hi)
  · split at h
    · exact chS_in hi h
    · rename_i q
      have hS := fun i (hi : i < 32) (h : lvB (chS f n m s o (f (a + 6)) (f (a + 7)) y) i) => chS_in hi h
      generalize chS f n m s o (f (a + 6)) (f (a + 7)) y = S at h q hS
      cases e : eldS f s S 14 with
      | none => exact absurd (Or.inl (eq_zero.mpr fun j hj z => eld_none 14 e j (hS j hj z).1 z)) q
      | some b =>
        rw [e] at h
        have lb := eld_lt 14 b e
        have := (lvB_sh hi (by omega)).mp h
        rw [this]
        exact hS b (by omega) (eld_in 14 b e)
theorem rs_se (F : CFa f n m s al we de bi ch) (hnc : nc ≤ 6) (hC : ∀ c, c < nc → CLR f (atC g c) Lt Nt c) {y : Nat} (hy : y ≤ 40) : ∀ (k : Nat) (σ : GS) (κ : KS), RQ f s al g nc y σ κ → (∀ c, σ.1 = some c → nc ≤ c + k) → RY f s al g nc y (seS f n m s g nc y k σ) (seC Lt Nt al we de bi ch nc y k κ)
  | k, (none, l, b, t, bg), (c', r, b', hv, bg'), h, _ => by
    have er : r = false := h.2.1
    subst er
    rw [show seS f n m s g nc y k (none, l, b, t, bg) = (none, l, b, t, bg) by cases k <;> rfl, show seC Lt Nt al we de bi ch nc y k (c', false, b', hv, bg') = (c', false, b', hv, bg') by cases k <;> rfl]
    exact ⟨h, fun z => Bool.noConfusion z⟩
  | 0, (some c, l, b, t, bg), κ, h, hk => by
    have e2 : c = l := h.2.2.1 c rfl
    have := hk c rfl
    have : l < nc := h.1.1
    omega
  | k + 1, (some c, l, b, t, bg), (c', r, b', hv, bg'), h, hk => by
    obtain ⟨⟨h1, h2⟩, h3, h4, h5, -, h7⟩ := h
    have e2 : c = l := h4 c rfl
    subst e2
    have h1 : c < nc := h1
    have e3 : c' = c := h2
    subst e3
    have er : r = true := h3
    subst er
    have hk2 := hk _ rfl
    obtain ⟨eb, hb0, hb1⟩ := h7 rfl
    have eb : b' = b := eb
    subst eb
    have cl := hC c' h1
    have tk := cl.2.2.1
    have begun : ∀ (t hv : Int32) (bg bg' : Nat → Int32), (∀ j, j < 6 → bg' j = bg j) → ¬ t = 0 → HV f s al g c' y t hv → RY f s al g nc y (if enS f s (atC g c') (bg c') t y = true then seS f n m s g nc y k (rnS (nxS f g (nc - (c' + 1)) (c' + 1)) (some c', c', true, t, bg)) else (some c', c', true, t, bg)) (if enB Lt Nt al y (c', true, true, hv, bg') = true then seC Lt Nt al we de bi ch nc y k (tnC Lt nc (enH Lt al y (c', true, true, hv, bg'))) else enH Lt al y (c', true, true, hv, bg')) := fun t hv bg bg' hbg ht hH => by
      obtain ⟨hH1, hH2⟩ := hH
      by_cases e4 : f (atC g c' + 4) = Int32.ofInt 1
      · rw [if_pos e4] at hH2
        subst hH2
        have l4 := (tk_e tk).mpr e4
        rw [show enS f s (atC g c') (bg c') hv y = false from if_pos e4, show enB Lt Nt al y (c', true, true, hv, bg') = false from if_pos l4, show enH Lt al y (c', true, true, hv, bg') = (c', true, true, hv, bg') from if_pos l4]
        refine ⟨⟨⟨h1, rfl⟩, rfl, fun c e => by cases e; rfl, hbg, fun z => Bool.noConfusion z, fun _ => ⟨rfl, fun z => Bool.noConfusion z, fun _ => ⟨ht, hH1, ?_⟩⟩⟩, fun _ _ => ⟨?_, ht⟩⟩
        · exact Eq.mpr (if_pos e4) rfl
        · exact (if_pos e4).symm
      · rw [if_neg e4] at hH2
        obtain ⟨y0, w1, w2, w3⟩ := hH2
        have l4 : ¬ Lt (4 * c' + 2) = (Int8.ofInt 101).toInt32 := fun z => e4 ((tk_e tk).mp z)
        have ea : hv &&& al y = alS s t y := by
          rw [w2]
          exact hv_al F hy w1 hH1 w3
        have eB : enB Lt Nt al y (c', true, true, hv, bg') = enS f s (atC g c') (bg c') t y := by
          rw [show enB Lt Nt al y (c', true, true, hv, bg') = (decide (hv &&& al y = 0) || (decide (Lt (4 * c' + 2) = (Int8.ofInt 121).toInt32) && decide (bg' c' + Nt (4 * c' + 2) ≤ nI y))) from if_neg l4, show enS f s (atC g c') (bg c') t y = (decide (alS s t y = 0) || (decide (f (atC g c' + 4) = Int32.ofInt 2) && decide (bg c' + f (atC g c' + 5) ≤ nI y))) from if_neg e4, ea, hbg c' (by omega), tk.1, decide_eq_decide.mpr (tk_y tk)]
        have eH : enH Lt al y (c', true, true, hv, bg') = (c', true, true, alS s t y, bg') := (if_neg l4).trans (by rw [← ea])
        rw [eB, eH]
        cases he : enS f s (atC g c') (bg c') t y
        · rw [if_neg Bool.false_ne_true, if_neg Bool.false_ne_true]
          have nz : ¬ alS s t y = 0 := fun z => by
            rw [show enS f s (atC g c') (bg c') t y = (decide (alS s t y = 0) || (decide (f (atC g c' + 4) = Int32.ofInt 2) && decide (bg c' + f (atC g c' + 5) ≤ nI y))) from if_neg e4, dec_t z] at he
            exact Bool.noConfusion he
          refine ⟨⟨⟨h1, rfl⟩, rfl, fun c e => by cases e; rfl, hbg, fun z => Bool.noConfusion z, fun _ => ⟨rfl, fun z => Bool.noConfusion z, fun _ => ⟨ht, hH1, ?_⟩⟩⟩, fun _ _ => ⟨?_, nz⟩⟩
          · exact Eq.mpr (if_neg e4) ⟨y, Nat.le_refl y, (al_al F hy hH1).symm, fun i hi z => by have := w3 i hi z; omega⟩
          · exact (if_neg e4).symm
        · rw [if_pos rfl, if_pos rfl]
          refine rs_se F hnc hC hy k _ _ (rs_next (σ := (some c', c', true, t, bg)) (κ := (c', true, true, alS s t y, bg')) hbg h1 rfl hC) (fun c e => ?_)
          have := nx_lt _ _ _ e
          omega
    cases b' with
    | true =>
      obtain ⟨q1, q2⟩ := hb1 rfl
      exact begun t hv bg bg' h5 q1 q2
    | false =>
      have eT := cf_tk F cl hy
      have tin := tk_in (n := n) (m := m) (s := s) (y := y) cl.2.1.2.1
      have eS : seS f n m s g nc y (k + 1) (some c', c', false, t, bg) = if ovS f n m s g y c' (some c', c', !decide (tkS f n m s (atC g c') y = 0), tkS f n m s (atC g c') y, if tkS f n m s (atC g c') y = 0 then bg else upd bg c' (nI y)) = true then seS f n m s g nc y k (rnS (nxS f g (nc - (c' + 1)) (c' + 1)) (some c', c', !decide (tkS f n m s (atC g c') y = 0), tkS f n m s (atC g c') y, if tkS f n m s (atC g c') y = 0 then bg else upd bg c' (nI y))) else (some c', c', !decide (tkS f n m s (atC g c') y = 0), tkS f n m s (atC g c') y, if tkS f n m s (atC g c') y = 0 then bg else upd bg c' (nI y)) := rfl
      have eB : beC Lt Nt al we de bi ch y (c', true, false, hv, bg') = if tkS f n m s (atC g c') y = 0 then (c', true, false, tkS f n m s (atC g c') y, bg') else (c', true, true, tkS f n m s (atC g c') y, upd bg' c' (nI y)) := by
        rw [← eT]
        rfl
      have eC : seC Lt Nt al we de bi ch nc y (k + 1) (c', true, false, hv, bg') = if (beC Lt Nt al we de bi ch y (c', true, false, hv, bg')).2.2.1 = true then (if enB Lt Nt al y (beC Lt Nt al we de bi ch y (c', true, false, hv, bg')) = true then seC Lt Nt al we de bi ch nc y k (tnC Lt nc (enH Lt al y (beC Lt Nt al we de bi ch y (c', true, false, hv, bg')))) else enH Lt al y (beC Lt Nt al we de bi ch y (c', true, false, hv, bg'))) else (if faC Lt Nt al ch c' y = true then seC Lt Nt al we de bi ch nc y k (tnC Lt nc (beC Lt Nt al we de bi ch y (c', true, false, hv, bg'))) else beC Lt Nt al we de bi ch y (c', true, false, hv, bg')) := rfl
      rw [eS, eC, eB, cf_fa F cl hy]
      generalize tkS f n m s (atC g c') y = T at tin
      by_cases z : T = 0
      · rw [if_pos z, if_pos z, dec_t z]
        show RY f s al g nc y (if faS f n m s (atC g c') y = true then seS f n m s g nc y k (rnS (nxS f g (nc - (c' + 1)) (c' + 1)) (some c', c', false, T, bg)) else (some c', c', false, T, bg)) (if faS f n m s (atC g c') y = true then seC Lt Nt al we de bi ch nc y k (tnC Lt nc (c', true, false, T, bg')) else (c', true, false, T, bg'))
        cases he : faS f n m s (atC g c') y
        · exact ⟨⟨⟨h1, rfl⟩, rfl, fun c e => by cases e; rfl, h5, fun w => Bool.noConfusion w, fun _ => ⟨rfl, fun _ => z, fun w => Bool.noConfusion w⟩⟩, fun _ w => Bool.noConfusion w⟩
        · refine rs_se F hnc hC hy k _ _ (rs_next (σ := (some c', c', false, T, bg)) (κ := (c', true, false, T, bg')) h5 h1 rfl hC) (fun c e => ?_)
          have := nx_lt _ _ _ e
          omega
      · rw [if_neg z, if_neg z, dec_f z]
        refine begun T T (upd bg c' (nI y)) (upd bg' c' (nI y)) (fun j hj => ?_) z ⟨fun i hi w => (tin i hi w).1, ?_⟩
        · by_cases ej : j = c'
          · rw [ej, upd_at, upd_at]
          · rw [upd_ne ej, upd_ne ej]
            exact h5 j hj
        · by_cases e4 : f (atC g c' + 4) = Int32.ofInt 1
          · rw [if_pos e4]
          · rw [if_neg e4]
            refine ⟨y, Nat.le_refl y, lvB_ext fun i hi => ?_, fun i hi w => (alv_iff.mp (tin i hi w).2).1⟩
            rw [lvB_and hi, F.a y hy i hi]
            exact ⟨fun w => ⟨w, tin i hi w⟩, fun w => w.1⟩
  termination_by k => k
theorem rs_ys (F : CFa f n m s al we de bi ch) (hC : ∀ c, c < nc → CLR f (atC g c) Lt Nt c) {y : Nat} (hy : y ≤ 40) {σ : GS} {κ : KS} (h : RQ f s al g nc y σ κ) : RQ f s al g nc y (ysS f s g nc y σ) (ysC Lt Nt de nc y κ) := by
  have h1 := h.1.1
  unfold ysS ysC
  rw [h.1.2, cf_sh F hy hC (nc - (σ.2.1 + 1)) (σ.2.1 + 1) (by omega)]
  cases e : shS f s g y (nc - (σ.2.1 + 1)) (σ.2.1 + 1) with
  | none => exact h
  | some c =>
    have := sh_lt _ _ _ e
    exact rs_turn h.2.2.2.1 (by omega)
/-- BOTH RUNS, YEAR BY YEAR -/
theorem rs_go (F : CFa f n m s al we de bi ch) (hnc : nc ≤ 6) (hn0 : 0 < nc) (hC : ∀ c, c < nc → CLR f (atC g c) Lt Nt c) {b0 b1 : Nat → Int32} (hb : ∀ j, j < 6 → b1 j = b0 j) : ∀ y, y ≤ 40 → RY f s al g nc y (goY f n m s g nc b0 (y + 1)) (goC Lt Nt al we de bi ch nc b1 (y + 1))
  | 0, h => rs_se F hnc hC h 6 _ _ (rs_ys F hC h ⟨⟨hn0, rfl⟩, rfl, fun c e => by cases e; rfl, hb, fun z => Bool.noConfusion z, fun _ => ⟨rfl, fun _ => rfl, fun z => Bool.noConfusion z⟩⟩) (fun c _ => by omega)
  | y + 1, h => rs_se F hnc hC h 6 _ _ (rs_ys F hC h (rs_go F hnc hn0 hC hb y (by omega)).1.up) (fun c _ => by omega)
/-- who has the field, by which clause: the same -/
theorem ry_eq {y : Nat} {σ : GS} {κ : KS} (h : RY f s al g nc y σ κ) : κ.2.2.2.1 = hsS f s g y σ ∧ (if κ.2.2.2.1 = 0 then m5 else nI κ.1) = hcS σ := by
  obtain ⟨⟨⟨h1, h2⟩, h3, h4, h5, h6, h7⟩, h8⟩ := h
  obtain ⟨o, l, b, t, bg⟩ := σ
  cases o with
  | none =>
    have e := h6 rfl
    rw [e]
    exact ⟨rfl, if_pos rfl⟩
  | some c =>
    have ec : c = l := h4 c rfl
    obtain ⟨-, q0, q1⟩ := h7 rfl
    cases b with
    | false =>
      have e := q0 rfl
      rw [e]
      exact ⟨rfl, if_pos rfl⟩
    | true =>
      obtain ⟨e1, e2⟩ := h8 rfl rfl
      refine ⟨e1, ?_⟩
      rw [if_neg e2, h2, ← ec]
      rfl
end CF
