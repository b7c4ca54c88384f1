/-! ranks; a state marked anew -/
def lin (E : Nat → Int) : Nat → List Int → Int
  | _, [] => 0
  | n, a :: t => a * E n + lin E (n + 1) t
def eF (L : XL) (l : Nat) : Int := match L[l]? with
  | some (some (.int x)) => x.toInt
  | _ => 0
theorem avs_lin {E : Nat → Int} {x : Int} : ∀ {v u : List Int} {j n : Nat}, avs v j x = some u → lin E n u = lin E n v - x * E (n + j)
  | [], _, _, _, h => by cases h
  | a :: t, u, 0, n, h => by
    cases h
    show (a - x) * E n + lin E (n + 1) t = a * E n + lin E (n + 1) t - x * E n
    rw [Int.sub_mul]
    omega
  | a :: t, u, j + 1, n, h => by
    simp only [avs] at h
    split at h
    · rename_i s hs
      cases h
      have ih := avs_lin (E := E) (n := n + 1) hs
      show a * E n + lin E (n + 1) s = a * E n + lin E (n + 1) t - x * E (n + (j + 1))
      rw [ih, show n + 1 + j = n + (j + 1) by omega]
      omega
    · cases h
/-- the locals' numbers lie in their bounds -/
def ebd (F : Nat → Int) (n : Nat) (A : List (Option AV)) : Prop := ∀ (i : Nat) (a : AV), A[i]? = some (some a) → a.1 = 0 → a.2.1 ≤ F (n + i) ∧ F (n + i) ≤ a.2.2.1
theorem ebd.tl {F : Nat → Int} {n : Nat} {o : Option AV} {A : List (Option AV)} (h : ebd F n (o :: A)) : ebd F (n + 1) A := fun i a ha h0 => by
  have := h (i + 1) a ha h0
  rw [show n + 1 + i = n + (i + 1) by omega]
  exact this
theorem alow_ok {E : Nat → Int} : ∀ {v : List Int} {A : List (Option AV)} {k z : Int} {n : Nat}, ebd E n A → alow v A k = some z → z ≤ k + lin E n v
  | [], _, _, _, _, _, h => by
    cases h
    show _ ≤ _ + 0
    omega
  | c :: t, [], k, z, n, hb, h => by
    unfold alow at h
    split at h
    · rename_i hc
      have ih := alow_ok (E := E) (n := n + 1) (fun i a ha => by cases ha) h
      subst hc
      show z ≤ k + (0 * E n + lin E (n + 1) t)
      omega
    · cases h
  | c :: t, o :: s, k, z, n, hb, h => by
    unfold alow at h
    split at h
    · rename_i hc
      have ih := alow_ok (E := E) hb.tl h
      subst hc
      show z ≤ k + (0 * E n + lin E (n + 1) t)
      omega
    · split at h
      · rename_i a
        split at h
        · rename_i h0
          have ih := alow_ok (E := E) hb.tl h
          obtain ⟨b1, b2⟩ := hb 0 a rfl h0
          have q := imul_b (y := c) b1 b2
          rw [Int.mul_comm a.2.1, Int.mul_comm a.2.2.1, Nat.add_zero, Int.mul_comm (E n)] at q
          show z ≤ k + (c * E n + lin E (n + 1) t)
          omega
        · cases h
      · cases h
theorem arkq_ok {E F : Nat → Int} : ∀ {cs : List Int} {A : List (Option AV)} {v u : List Int} {k k2 : Int} {n : Nat}, ebd F n A → (∀ (i : Nat) (a : AV), A[i]? = some (some a) → a.1 = 0 → 0 < a.2.2.2.1 → F (n + i) = E (a.2.2.2.1 - 1) + a.2.2.2.2.1) → arkq cs A v k = some (u, k2) → lin E 0 u + k2 ≤ lin E 0 v + k - lin F n cs
  | [], _, _, _, _, _, _, _, _, h => by
    cases h
    show _ ≤ _ - 0
    omega
  | c :: t, [], v, u, k, k2, n, hb, hs, h => by
    unfold arkq at h
    split at h
    · rename_i hc
      have ih := arkq_ok (E := E) (F := F) (n := n + 1) (fun i a ha => by cases ha) (fun i a ha => by cases ha) h
      subst hc
      show _ ≤ _ - (0 * F n + lin F (n + 1) t)
      omega
    · cases h
  | c :: t, o :: s, v, u, k, k2, n, hb, hs, h => by
    have hs2 : ∀ (i : Nat) (a : AV), s[i]? = some (some a) → a.1 = 0 → 0 < a.2.2.2.1 → F (n + 1 + i) = E (a.2.2.2.1 - 1) + a.2.2.2.2.1 := fun i a ha h0 h1 => by
      rw [show n + 1 + i = n + (i + 1) by omega]
      exact hs (i + 1) a ha h0 h1
    unfold arkq at h
    split at h
    · rename_i hc
      have ih := arkq_ok (E := E) (F := F) hb.tl hs2 h
      subst hc
      show _ ≤ _ - (0 * F n + lin F (n + 1) t)
      omega
    · split at h
      · rename_i a
        split at h
        · rename_i h0
          split at h
          · rename_i h1
            split at h
            · rename_i u2 hu2
              have ih := arkq_ok (E := E) (F := F) hb.tl hs2 h
              have e := avs_lin (E := E) (n := 0) hu2
              have e2 := hs 0 a rfl h0 h1
              rw [Nat.zero_add] at e
              rw [Nat.add_zero] at e2
              show _ ≤ _ - (c * F n + lin F (n + 1) t)
              rw [e2, Int.mul_add]
              omega
            · cases h
          · have ih := arkq_ok (E := E) (F := F) hb.tl hs2 h
            obtain ⟨b1, b2⟩ := hb 0 a rfl h0
            have q := imul_b (y := c) b1 b2
            rw [Int.mul_comm a.2.1, Int.mul_comm a.2.2.1, Nat.add_zero, Int.mul_comm (F n)] at q
            show _ ≤ _ - (c * F n + lin F (n + 1) t)
            omega
        · cases h
      · cases h
section AW
variable {W : AW} {P : Nat × List APr} {E : Nat → Int} {L : XL} {h : XH} {A : List (Option AV)}
/-- the locals by their bounds alone -/
def gpl (W : AW) (A : List (Option AV)) (L : XL) : Prop := A.length = L.length ∧ ∀ (i : Nat) (o : Option AV), A[i]? = some o → ∃ d, L[i]? = some d ∧ (match o with
  | some a => ∃ v, d = some v ∧ ga W a v
  | none => ∀ v, d = some v → v.category ≠ 2)
theorem gls.gpl (hA : gls W E L h A) : gpl W A L := ⟨hA.1, fun i o ho => by
  obtain ⟨d, hd, hg⟩ := hA.2 i o ho
  refine ⟨d, hd, ?_⟩
  cases o with
  | none => exact hg
  | some a =>
    obtain ⟨v, hv, g⟩ := hg
    exact ⟨v, hv, g.1⟩⟩
theorem gpl.ebd (hA : gpl W A L) : ebd (eF L) 0 A := fun i a ha h0 => by
  obtain ⟨d, hd, v, rfl, g⟩ := hA.2 i _ ha
  obtain ⟨x, rfl, e⟩ := ga_int h0 g
  rw [Nat.zero_add]
  unfold eF
  rw [hd]
  exact e
theorem amk_get : ∀ (A : List (Option AV)) (n i : Nat), (amk n A)[i]? = (A[i]?).map fun o => match o with
    | some a => if a.1 = 0 then some (0, a.2.1, a.2.2.1, n + i + 1, 0, 0) else some (a.1, 0, 0, a.2.2.2.1, 0, 0)
    | none => none
  | [], _, _ => rfl
  | o :: t, n, 0 => by
    unfold amk
    cases o with
    | none => rfl
    | some a => rfl
  | o :: t, n, i + 1 => by
    show (amk (n + 1) t)[i]? = _
    rw [amk_get t (n + 1) i]
    show _ = (t[i]?).map _
    congr 1
    funext o
    cases o with
    | none => rfl
    | some a => rw [show n + 1 + i + 1 = n + (i + 1) + 1 by omega]
theorem amk_len : ∀ (A : List (Option AV)) (n : Nat), (amk n A).length = A.length
  | [], _ => rfl
  | _ :: t, n => by simp [amk, amk_len t (n + 1)]
theorem ga_nz {a : AV} {v : Value} {x y o : Int} {z : Nat} (h0 : ¬ a.1 = 0) (hv : ga W a v) : ga W (a.1, x, y, a.2.2.2.1, o, z) v := by
  obtain ⟨t, lo, hi, sy, of, sr⟩ := a
  unfold ga at hv ⊢
  dsimp only at hv h0 ⊢
  match t with
  | 0 => exact absurd rfl h0
  | 1 => exact hv
  | 2 => exact hv
  | 3 => exact hv
  | 4 => exact hv
  | t + 5 => exact hv
theorem amk_ok (hA : gpl W A L) : gls W (eF L) L h (amk 0 A) := by
  refine ⟨(amk_len A 0).trans hA.1, fun i o ho => ?_⟩
  rw [amk_get] at ho
  cases hp : A[i]? with
  | none => rw [hp] at ho; cases ho
  | some p =>
    rw [hp] at ho
    obtain ⟨d, hd, hg⟩ := hA.2 i p hp
    refine ⟨d, hd, ?_⟩
    cases p with
    | none => cases ho; exact hg
    | some a =>
      obtain ⟨v, rfl, g⟩ := hg
      simp only [Option.map_some, Option.some.injEq] at ho
      subst ho
      split
      · rename_i h0
        obtain ⟨x, rfl, e⟩ := ga_int h0 g
        refine ⟨_, rfl, ga_of rfl e, fun _ _ => ⟨x, rfl, ?_⟩, fun h1 => absurd (show 0 < 0 from h1) (by decide), fun h1 => absurd (show 1000 ≤ 0 from h1) (by decide)⟩
        show x.toInt = eF L (0 + i + 1 - 1) + 0
        rw [show 0 + i + 1 - 1 = i by omega]
        unfold eF
        rw [hd]
        exact (Int.add_zero _).symm
      · rename_i h0
        exact ⟨_, rfl, gv_plain (ga_nz h0 g) (fun e => absurd e h0) rfl⟩
theorem acln_ok {E2 : Nat → Int} {a : AV} {v : Value} (hc : acln a = true) (hv : ga W a v) : gv W E2 L h a v := by
  unfold acln at hc
  simp only [Bool.and_eq_true, Bool.or_eq_true, bne_iff_ne, ne_eq, beq_iff_eq] at hc
  exact gv_plain hv (fun h0 => hc.1.resolve_left (fun e => e h0)) hc.2
theorem aentL_ok : ∀ {A B : List (Option AV)} {n : Nat} {L : XL}, (∀ (i : Nat) (o : Option AV), A[i]? = some o → ∃ d, L[n + i]? = some d ∧ gl W E L h o d) → aentL A B = true → A.length = B.length ∧ ∀ (i : Nat) (o : Option AV), B[i]? = some o → ∃ d, L[n + i]? = some d ∧ (match o with
  | some a => ∃ v, d = some v ∧ ga W a v
  | none => ∀ v, d = some v → v.category ≠ 2)
  | [], [], _, _, _, _ => ⟨rfl, fun i o ho => by cases ho⟩
  | [], _ :: _, _, _, _, hb => by cases hb
  | _ :: _, [], _, _, _, hb => by cases hb
  | o :: A, p :: B, n, L, hA, hb => by
    unfold aentL at hb
    rw [Bool.and_eq_true] at hb
    have ih := aentL_ok (A := A) (B := B) (n := n + 1) (L := L) (fun i z hz => by
      rw [show n + 1 + i = n + (i + 1) by omega]
      exact hA (i + 1) z hz) hb.2
    refine ⟨by simp [ih.1], fun i z hz => ?_⟩
    cases i with
    | zero =>
      cases hz
      obtain ⟨d, hd, hg⟩ := hA 0 o rfl
      refine ⟨d, hd, ?_⟩
      have h1 := hb.1
      cases p with
      | none =>
        dsimp only at h1 ⊢
        cases o with
        | none => exact hg
        | some a =>
          obtain ⟨v, rfl, g⟩ := hg
          intro w hw
          cases hw
          intro h2
          have h3 : (a.1 != 1) = true := h1
          rw [ga_cat g.1 h2] at h3
          cases h3
      | some b =>
        dsimp only at h1 ⊢
        cases o with
        | none => cases h1
        | some a =>
          obtain ⟨v, rfl, g⟩ := hg
          exact ⟨v, rfl, ale_ok h1 g.1⟩
    | succ i =>
      obtain ⟨d, hd, hg⟩ := ih.2 i z hz
      exact ⟨d, by rw [show n + (i + 1) = n + 1 + i by omega]; exact hd, hg⟩
theorem alls_clean {E2 : Nat → Int} : ∀ {A B : List AV} {a : List Value}, gst W E L h A a → alls A B = true → B.all acln = true → gst W E2 L h B a
  | [], [], [], _, _, _ => trivial
  | [], [], _ :: _, ha, _, _ => ha.elim
  | [], _ :: _, _, _, hl, _ => by cases hl
  | _ :: _, [], _, _, hl, _ => by cases hl
  | _ :: _, _ :: _, [], ha, _, _ => ha.elim
  | x :: A, y :: B, v :: a, ha, hl, hc => by
    unfold alls at hl
    simp only [Bool.and_eq_true] at hl
    simp only [List.all_cons, Bool.and_eq_true] at hc
    exact ⟨acln_ok hc.1 (ale_ok hl.1 ha.1.1), alls_clean ha.2 hl.2 hc.2⟩
end AW
