/-! calls and runs -/
abbrev XC : Type := Nat × XL × List Value × XH
abbrev XCl : Type := Nat → List Value → XH → Option Value → XH → Prop
abbrev xmY (M : XMeth) : MethodName := M.1
abbrev xmB (M : XMeth) : ByteArray := M.2.1
abbrev xmL (M : XMeth) : Nat := M.2.2.1
abbrev xmR (M : XMeth) : Option FieldType := M.2.2.2.1
abbrev xmN (M : XMeth) : Nat := M.2.2.2.2.1
abbrev xmK (M : XMeth) : Nat := M.2.2.2.2.2.1
abbrev xmC (M : XMeth) : Nat := M.2.2.2.2.2.2.1
abbrev xmW (M : XMeth) : List Nat := M.2.2.2.2.2.2.2.1
abbrev xmT (M : XMeth) : List XRow := M.2.2.2.2.2.2.2.2
/-- which invoke calls a method of that kind (0 static, 1 of an object, 2 a constructor) -/
def xinv (ins : Instr) (k : Nat) : Bool := match ins with
  | .invokestatic _ => k == 0
  | .invokevirtual _ => k == 1
  | .invokespecial _ => k == 2
  | _ => false
def xrecv (M : XMeth) (as : List Value) (h : XH) : Prop := xmK M ≠ 0 → ∃ (k : Nat) (fs : List Value), as.head? = some (.ref k) ∧ h.2.2 k = .inl (xmC M, fs) ∧ 2 ≤ k ∧ k < h.1
def XStep (xM : Nat → Option XMeth) (call : XCl) (M : XMeth) (c c1 : XC) : Prop := ∃ r ∈ xmT M, r.1 = c.1 ∧
  ((∃ o, xst r.2.1 r.2.2.2.1 r.2.2.2.2.1 c.1 c.2.1 c.2.2.1 c.2.2.2 = some o ∧ c1 = (o.1, o.2.1, o.2.2, c.2.2.2)) ∨
   (∃ o, xhp r.2.1 r.2.2.2.1 r.2.2.2.2.1 c.2.2.1 c.2.2.2 = some o ∧ c1 = (c.1 + o.1, c.2.1, o.2.1, o.2.2)) ∨
   (∃ (M1 : XMeth) (as rest : List Value) (v : Option Value) (h1 : XH), xM r.2.2.2.1 = some M1 ∧ xinv r.2.1 (xmK M1) = true ∧ c.2.2.1 = as.reverse ++ rest ∧ as.length = xmN M1 + (if xmK M1 = 0 then 0 else 1) ∧ xrecv M1 as c.2.2.2 ∧ (rest.map fun v => v.category).sum ≤ 8 ∧ call r.2.2.2.1 as c.2.2.2 v h1 ∧ c1 = (c.1 + 3, c.2.1, v.toList ++ rest, h1)))
def XRuns (xM : Nat → Option XMeth) (call : XCl) (M : XMeth) : Nat → XC → XC → Prop
  | 0, c, c1 => c = c1
  | n + 1, c, c1 => ∃ c2, XStep xM call M c c2 ∧ XRuns xM call M n c2 c1
def XRet (M : XMeth) (c : XC) (v : Option Value) : Prop := ∃ r ∈ xmT M, r.1 = c.1 ∧
  ((r.2.1 = .ireturn ∧ ∃ (x : Int32) (ty : FieldType), c.2.2.1 = [.int x] ∧ v = some (.int x) ∧ xmR M = some ty ∧ narrow ty (.int x) = .int x) ∨
   (r.2.1 = .lreturn ∧ ∃ x : Int64, c.2.2.1 = [.long x] ∧ v = some (.long x) ∧ xmR M = some .long) ∨
   (r.2.1 = .areturn ∧ ∃ (x : Value) (n : String), c.2.2.1 = [x] ∧ v = some x ∧ (x = .null ∨ ∃ k, x = .ref k) ∧ xmR M = some (.object n)) ∨
   (r.2.1 = .return_ ∧ c.2.2.1 = [] ∧ v = none ∧ xmR M = none))
def xarg : List Value → XL
  | [] => []
  | v :: t => if v.category = 2 then some v :: none :: xarg t else some v :: xarg t
def xent (M : XMeth) (as : List Value) : XL := xarg as ++ List.replicate (xmL M - (xarg as).length) none
def XCall (xM : Nat → Option XMeth) : Nat → XCl
  | 0 => fun _ _ _ _ _ => False
  | d + 1 => fun i as h v h1 => ∃ (M : XMeth) (n : Nat) (c : XC), xM i = some M ∧ (xarg as).length ≤ xmL M ∧ XRuns xM (XCall xM d) M n (0, xent M as, [], h) c ∧ XRet M c v ∧ c.2.2.2 = h1
/-! the heap only grows -/
def xle (h h1 : XH) : Prop := h.1 ≤ h1.1 ∧ h.2.1 ≤ h1.2.1
theorem xle.refl (h : XH) : xle h h := ⟨Nat.le_refl _, Nat.le_refl _⟩
theorem xle.trans {h h1 h2 : XH} (a : xle h h1) (b : xle h1 h2) : xle h h2 := ⟨Nat.le_trans a.1 b.1, Nat.le_trans a.2 b.2⟩
theorem xle_up (h : XH) (k : Nat) (e : XE) : xle h (xup h k e) := ⟨Nat.le_refl _, Nat.le_refl _⟩
theorem xle_new (h : XH) (n : Nat) (e : XE) : xle h (xnew h n e) := ⟨Nat.le_succ _, Nat.le_add_right _ _⟩
theorem xhp_mono {ins : Instr} {a b : Nat} {st : List Value} {h : XH} {o : Nat × List Value × XH} (hs : xhp ins a b st h = some o) : xle h o.2.2 := by
  unfold xhp at hs
  repeat' split at hs
  all_goals first | (cases hs; done) | (cases hs; first | exact xle_up _ _ _ | exact xle_new _ _ _ | exact xle.refl _)
theorem XStep.mono {xM : Nat → Option XMeth} {call : XCl} {M : XMeth} {c c1 : XC} (hc : ∀ i as h v h1, call i as h v h1 → xle h h1) (h : XStep xM call M c c1) : xle c.2.2.2 c1.2.2.2 := by
  obtain ⟨r, -, -, ⟨o, -, rfl⟩ | ⟨o, h1, rfl⟩ | ⟨M1, as, rest, v, h1, -, -, -, -, -, -, h2, rfl⟩⟩ := h
  · exact xle.refl _
  · exact xhp_mono h1
  · exact hc _ _ _ _ _ h2
theorem XRuns.mono {xM : Nat → Option XMeth} {call : XCl} {M : XMeth} (hc : ∀ i as h v h1, call i as h v h1 → xle h h1) : ∀ (n : Nat) {c c1 : XC}, XRuns xM call M n c c1 → xle c.2.2.2 c1.2.2.2
  | 0, c, c1, h => by cases h; exact xle.refl _
  | n + 1, c, c1, h => by
    obtain ⟨c2, h1, h2⟩ := h
    exact (h1.mono hc).trans (XRuns.mono hc n h2)
theorem XCall.mono {xM : Nat → Option XMeth} : ∀ (d : Nat) (i : Nat) (as : List Value) (h : XH) (v : Option Value) (h1 : XH), XCall xM d i as h v h1 → xle h h1
  | 0, _, _, _, _, _, h => False.elim h
  | d + 1, i, as, h, v, h1, hc => by
    obtain ⟨M, n, c, -, -, hr, -, rfl⟩ := hc
    exact hr.mono (XCall.mono d)
/-! what a method's table must be -/
def xcw (xM : Nat → Option XMeth) (own : String) (r : XRow) : Bool := match r.2.1 with
  | .invokestatic idx => if r.2.2.2.1 = 998 then true else (match xM r.2.2.2.1 with
    | some M1 => decide (lw_tbl[r.2.2.2.2.2]? = some (.methodLink own idx (xmY M1))) || decide (lw_tbl[r.2.2.2.2.2]? = some (.methodLinkNest own idx (xmY M1) RX6))
    | none => true)
  | .invokevirtual idx => match xM r.2.2.2.1 with
    | some M1 => decide (lw_tbl[r.2.2.2.2.2]? = some (.methodLink own idx (xmY M1))) || decide (lw_tbl[r.2.2.2.2.2]? = some (.methodLinkNest own idx (xmY M1) RX6))
    | none => true
  | .invokespecial idx => if r.2.2.2.1 = 999 then true else (match xM r.2.2.2.1 with
    | some M1 => decide (lw_tbl[r.2.2.2.2.2]? = some (.methodLink own idx (xmY M1))) || decide (lw_tbl[r.2.2.2.2.2]? = some (.methodLinkNest own idx (xmY M1) RX6))
    | none => true)
  | _ => true
def xrow (xM : Nat → Option XMeth) (own : String) (cc : ByteArray) (ini : Bool) (r : XRow) : Bool := decide (decode cc r.1 = .ok (r.2.1, xil r.2.1 r.2.2.1)) && (xrw own ini r && xcw xM own r)
def xisr (t : FieldType) : Bool := match t with
  | .object _ => true
  | .array _ => true
  | _ => false
def xmOK (xM : Nat → Option XMeth) (M : XMeth) : Bool := (xmT M).all (xrow xM (xmY M).cls (xmB M) (xmK M == 2)) && (plainName (xmY M).cls && (decide ((xmY M).cls ≠ "java/lang/invoke/MethodHandle") && (decide ((xmY M).cls ≠ "java/lang/invoke/VarHandle") && (decide ((parseMethodDescriptor (xmY M).desc).map (fun d => d.parameters.length) = some (xmN M)) && (decide (xmL M ≤ 15) &&
  (match xmW M with
  | i :: j :: k :: n :: _ => decide (lw_tbl[i]? = some (.code (xmY M) (xmB M) (xmL M) (xmR M))) && (decide (lw_tbl[j]? = some (.initialized (xmY M).cls)) &&
    (match xmK M with
    | 0 => decide (lw_tbl[k]? = some (.static (xmY M)))
    | 1 => decide (lw_tbl[k]? = some (.instanceMethod (xmY M))) && (decide (lw_tbl[n]? = some (.selects (xmY M).cls (xmY M) (xmY M))) && (xown (xmY M).cls (xmC M) || (decide (xmC M = 98) && decide ((xmY M).cls = "java/lang/String"))))
    | _ => decide (lw_tbl[k]? = some (.instanceMethod (xmY M))) && (decide ((xmY M).name = "<init>") && decide (xmR M = none))))
  | _ => false))))))
/-- the words of a method -/
def xwo (M : XMeth) : List Cond := .code (xmY M) (xmB M) (xmL M) (xmR M) :: xtw
def xrm (d mc ms : Nat) : Room := { frames := d, cells := mc, slots := ms, locals := 34 * d }
def xPc (G : XG) (as : List Value) (h : XH) : Array Value → State → Prop := va_Pc (as.map (xde G)) (fun U => xR G h U.heap [] ∧ xK G U ∧ U.heap.size = (xHs G).size + (h.1 - 13))
def xQc (G : XG) (v : Option Value) (h : XH) : Array Value → State → Outcome → State → Prop := fun _ _ oc t => oc = .returned (v.map (xde G)) ∧ xR G h t.heap []
theorem xPc_blind (G : XG) (as : List Value) (h : XH) : FrameBlind (xPc G as h) := fun a U g mk q => by
  obtain ⟨q1, q2, q3, q4⟩ := q
  exact ⟨q1, q2, q3.warm (U := U.calling g mk a) (State.WarmedH.refl U), q4⟩
theorem xarg_in (G : XG) : ∀ (as : List Value) (n i : Nat) (v : Value), (xarg as)[i]? = some (some v) → (n + i, xde G v) ∈ lv_args n (as.map (xde G))
  | [], n, i, v, h => by simp [xarg] at h
  | w :: t, n, i, v, h => by
    simp only [xarg] at h
    simp only [List.map_cons, lv_args, xde_cat]
    split at h
    · rename_i hc
      rw [if_pos hc]
      match i, h with
      | 0, h => cases h; exact List.mem_cons_self
      | 1, h => cases h
      | j + 2, h =>
        have := xarg_in G t (n + 2) j v h
        rw [show n + (j + 2) = n + 2 + j by omega]
        exact List.mem_cons_of_mem _ this
    · rename_i hc
      rw [if_neg hc]
      match i, h with
      | 0, h => cases h; exact List.mem_cons_self
      | j + 1, h =>
        have := xarg_in G t (n + 1) j v h
        rw [show n + (j + 1) = n + 1 + j by omega]
        exact List.mem_cons_of_mem _ this
theorem xarg_len (G : XG) : ∀ as : List Value, (lg_sl (as.map (xde G))).length = (xarg as).length
  | [] => rfl
  | w :: t => by
    have ih := xarg_len G t
    simp only [List.map_cons, lg_sl, List.flatMap_cons, xde_cat, xarg, List.length_append] at ih ⊢
    split <;> simp [ih] <;> omega
theorem x_entry (G : XG) (M : XMeth) (as : List Value) (h : (xarg as).length ≤ xmL M) : xlo G ((lg_sl (as.map (xde G)) ++ List.replicate (xmL M - (lg_sl (as.map (xde G))).length) Slot.unset).toArray) (xent M as) := by
  have h1 := lv_entry (as.map (xde G)) (n := xmL M) (by rw [xarg_len]; exact h)
  have hl : (xent M as).length = xmL M := by simp [xent]; omega
  refine ⟨h1.1.trans hl.symm, h1.2.1, fun q hq => h1.2.2 q ?_⟩
  obtain ⟨v, hv, hq2⟩ := xas_inv hq
  have hv2 : (xarg as)[q.1]? = some (some v) := by
    unfold xent at hv
    by_cases hlt : q.1 < (xarg as).length
    · rw [List.getElem?_append_left hlt] at hv
      exact hv
    · rw [List.getElem?_append_right (by omega)] at hv
      have := List.eq_of_mem_replicate (List.mem_of_getElem? hv)
      cases this
  have := xarg_in G as 0 q.1 v hv2
  rw [Nat.zero_add, ← hq2] at this
  exact this
