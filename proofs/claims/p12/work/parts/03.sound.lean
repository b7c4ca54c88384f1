/-! the places on the JVM: place k is the cell xad k; places 0 and 1 lie in the old heap, the others where the run's new cells begin -/
def xHs (G : XG) : Heap := G.2.2.2.1
def xad (G : XG) (k : Nat) : Nat := if k < 13 then G.2.2.1 k else (xHs G).size + (k - 13)
def xde (G : XG) (v : Value) : Value := match v with
  | .ref k => .ref (xad G k)
  | v => v
def xen (G : XG) (e : XE) : va_E := match e with
  | .inl o => .inr (o.1, o.2.map (xde G))
  | .inr (.inl q) => .inl (G.2.1 q.1, q.2.1, .inl q.2.2)
  | .inr (.inr q) => .inl (G.2.1 q.1, q.2.1, .inr (.inr (.inr (.inr (fun j => (q.2.2 j).map (xad G))))))
def xws (G : XG) (h : XH) : va_W := (List.range (h.1 - 13)).map fun j => ((xHs G).size + j, xen G (h.2.2 (j + 13)))
def xtys (G : XG) : List (ClassId × FieldType) := [(G.2.1 0, .int), (G.2.1 1, .boolean), (G.2.1 2, .object RX0), (G.2.1 3, .object RX1)]
def xA (G : XG) : Nat → Prop := fun q => (xHs G).size ≤ q
/-- whether the formatter is there (else it is null) -/
def xfl (G : XG) : Bool := Nat.beq (G.2.2.2.2 2).1 0
/-- what lies in the places that the run hasn't made -/
def xex (G : XG) (k : Nat) : XE := if k < 2 then .inr (.inl (0, G.2.2.2.2 k)) else if k < 7 then .inl (98, []) else if k < 12 then .inr (.inl (4, (xsb (k - 7)).length, fun j => (xsb (k - 7)).getD j 0)) else .inl (if xfl G = true then 97 else 96, [])
def xR (G : XG) (h : XH) (H : Heap) (locs : List Loc) : Prop := va_P G.1 vwCl (xws G h) H ∧ va_S (xA G) (xHs G) H locs ∧ 13 ≤ h.1 ∧ ∀ k, k < 13 → h.2.2 k = xex G k
theorem x_ext2 {G : XG} {h : XH} (hX : ∀ k, k < 13 → h.2.2 k = xex G k) {k : Nat} {q : Nat × Nat × (Nat → Int32)} (hq : h.2.2 k = .inr (.inl q)) (ht : q.1 < 2) : k < 2 ∨ 13 ≤ k := by
  by_cases hk : k < 13
  · rw [hX k hk] at hq
    unfold xex at hq
    by_cases h2 : k < 2
    · exact Or.inl h2
    · rw [if_neg h2] at hq
      by_cases h7 : k < 7
      · rw [if_pos h7] at hq; cases hq
      · rw [if_neg h7] at hq
        by_cases h12 : k < 12
        · rw [if_pos h12] at hq
          injection hq with hq
          injection hq with hq
          subst hq
          exact absurd (show 4 < 2 from ht) (by decide)
        · rw [if_neg h12] at hq; cases hq
  · exact Or.inr (by omega)
theorem x_ext4 {G : XG} {h : XH} (hX : ∀ k, k < 13 → h.2.2 k = xex G k) {k : Nat} {q : Nat × Nat × (Nat → Int32)} (hk : k < 13) (hq : h.2.2 k = .inr (.inl q)) (ht : q.1 = 4) : ∃ i, i < 5 ∧ k = i + 7 ∧ q = (4, (xsb i).length, fun j => (xsb i).getD j 0) := by
  rw [hX k hk] at hq
  unfold xex at hq
  by_cases h2 : k < 2
  · rw [if_pos h2] at hq
    injection hq with hq
    injection hq with hq
    subst hq
    cases ht
  · rw [if_neg h2] at hq
    by_cases h7 : k < 7
    · rw [if_pos h7] at hq; cases hq
    · rw [if_neg h7] at hq
      by_cases h12 : k < 12
      · rw [if_pos h12] at hq
        injection hq with hq
        injection hq with hq
        exact ⟨k - 7, by omega, by omega, hq.symm⟩
      · rw [if_neg h12] at hq; cases hq
/-- what the tables and the old heap say of the statics and the String constants -/
def xKs (G : XG) (s : State) : Prop := va_Z RX6 "ABOVE" "[I" (.ref (G.2.2.1 0)) (xA G) s (xHs G) ∧ va_Z "java/lang/String" "COMPACT_STRINGS" "Z" (.int 1) (xA G) s (xHs G) ∧ va_Z "jdk/internal/util/Preconditions" "SIOOBE_FORMATTER" "Ljava/util/function/BiFunction;" (if xfl G = true then .ref (G.2.2.1 12) else .null) (xA G) s (xHs G) ∧
  ∀ i, i < 5 → vk_R (xsr i).1 (xsr i).2.1 (xsr i).2.2 (G.2.2.1 (i + 2)) s ∧ va_O "java/lang/String" (G.2.2.1 (i + 2)) (xA G) s (xHs G) ∧ va_OF "java/lang/String" "coder" "B" (.int 0) (G.2.2.1 (i + 2)) (xA G) s (xHs G) ∧ va_OF "java/lang/String" "value" "[B" (.ref (G.2.2.1 (i + 7))) (G.2.2.1 (i + 2)) (xA G) s (xHs G) ∧ va_T .byte (G.2.2.1 (i + 7)) (xsb i).length (fun j => .int ((xsb i).getD j 0)) (xA G) s (xHs G)
theorem xKs.warm {G : XG} {s U : State} (h : xKs G s) (hW : s.WarmedH U.vm) : xKs G U := by
  obtain ⟨h1, h2, h3, h4⟩ := h
  refine ⟨h1.moved hW.alike, h2.moved hW.alike, h3.moved hW.alike, fun i hi => ?_⟩
  obtain ⟨g1, g2, g3, g4, g5⟩ := h4 i hi
  exact ⟨g1.warm hW, g2.moved hW.alike, va_OF.moved hW.alike g3, va_OF.moved hW.alike g4, g5.moved hW.alike⟩
def xisN (w : Cond) : Bool := match w with
  | .fieldLinkNest .. => true
  | .methodLinkNest .. => true
  | _ => false
def xtw : List Cond := lw_tbl.filter goodWord
def xnw : List Cond := lw_tbl.filter xisN
def xK (G : XG) (s : State) : Prop := va_K G.1 vwCl (xtys G) s ∧ (∀ k, k < 2 → va_T .int (G.2.2.1 k) (G.2.2.2.2 k).1 (fun j => .int ((G.2.2.2.2 k).2 j)) (xA G) s (xHs G)) ∧ xKs G s ∧ va_AO RX0 s ∧ va_AO RX1 s ∧ ∀ w ∈ xnw, va_Nw w s
theorem xK.warm {G : XG} {s U : State} (h : xK G s) (hW : s.WarmedH U.vm) : xK G U := by
  obtain ⟨h1, h2, h3, h4, h5, h6⟩ := h
  refine ⟨h1.moved hW.alike, fun k hk => (h2 k hk).moved hW.alike, h3.warm hW, h4.moved hW.alike, h5.moved hW.alike, fun w hw => ?_⟩
  have hn := h6 w hw
  have hi : xisN w = true := (List.mem_filter.mp hw).2
  cases w <;> first | exact hn.warmF hW | exact hn.warmM hW | cases hi
theorem xde_cat (G : XG) (v : Value) : (xde G v).category = v.category := by cases v <;> rfl
theorem xde_fits (G : XG) (ty : FieldType) (v : Value) : fits ty (xde G v) = fits ty v := by cases v <;> cases ty <;> rfl
theorem xde_nar (G : XG) (ty : FieldType) (v : Value) (h : narrow ty v = v) : narrow ty (xde G v) = xde G v := by
  cases v <;> first | exact h | (cases ty <;> rfl)
theorem xde_rf (G : XG) (r : Option Nat) : va_rf (r.map (xad G)) = xde G (va_rf r) := by cases r <;> rfl
theorem xcats (G : XG) (r : List Value) : ((r.map (xde G)).map fun v => v.category).sum = (r.map fun v => v.category).sum := by
  rw [List.map_map]
  congr 1
  exact List.map_congr_left fun v _ => xde_cat G v
theorem xad_hi {G : XG} {k : Nat} (h : 13 ≤ k) : xad G k = (xHs G).size + (k - 13) := if_neg (by omega)
theorem xad_lo {G : XG} {k : Nat} (h : k < 13) : xad G k = G.2.2.1 k := if_pos h
theorem xws_get (G : XG) (h : XH) (j : Nat) : (xws G h)[j]? = if j < h.1 - 13 then some ((xHs G).size + j, xen G (h.2.2 (j + 13))) else none := by
  unfold xws
  rw [List.getElem?_map]
  by_cases hj : j < h.1 - 13
  · rw [List.getElem?_range hj, if_pos hj]; rfl
  · rw [if_neg hj, List.getElem?_eq_none (by rw [List.length_range]; omega)]; rfl
theorem xws_at {G : XG} {h : XH} {k : Nat} (h2 : 13 ≤ k) (hk : k < h.1) : (xws G h)[k - 13]? = some (xad G k, xen G (h.2.2 k)) := by
  rw [xws_get, if_pos (by omega), xad_hi h2, show k - 13 + 13 = k by omega]
theorem xws_D (G : XG) (h : XH) : va_D (xA G) (xws G h) := by
  refine ⟨fun i j p q hi hj hpq => ?_, fun k q hk => ?_⟩
  · rw [xws_get] at hi hj
    split at hi
    · split at hj
      · cases hi; cases hj
        have e : (xHs G).size + i = (xHs G).size + j := hpq
        omega
      · cases hj
    · cases hi
  · rw [xws_get] at hk
    split at hk
    · cases hk
      exact Nat.le_add_right _ _
    · cases hk
theorem xws_len (G : XG) (h : XH) : (xws G h).length = h.1 - 13 := by simp [xws]
theorem xws_up (G : XG) (h : XH) {k : Nat} (e : XE) (h2 : 13 ≤ k) (hk : k < h.1) : (xws G h).set (k - 13) (xad G k, xen G e) = xws G (xup h k e) := by
  refine List.ext_getElem? fun j => ?_
  rw [xws_get]
  by_cases hj : j = k - 13
  · subst hj
    rw [List.getElem?_set_self (by rw [xws_len]; omega), if_pos (by show k - 13 < h.1 - 13; omega), xad_hi h2]
    show _ = some ((xHs G).size + (k - 13), xen G (if k - 13 + 13 = k then e else _))
    rw [if_pos (by omega)]
  · rw [List.getElem?_set_ne (Ne.symm hj), xws_get]
    show _ = if j < h.1 - 13 then some ((xHs G).size + j, xen G (if j + 13 = k then e else h.2.2 (j + 13))) else none
    rw [if_neg (show ¬ j + 13 = k by omega)]
theorem xws_new (G : XG) (h : XH) (n : Nat) (e : XE) (h2 : 13 ≤ h.1) : xws G h ++ [((xHs G).size + (h.1 - 13), xen G e)] = xws G (xnew h n e) := by
  refine List.ext_getElem? fun j => ?_
  rw [xws_get]
  show _ = if j < h.1 + 1 - 13 then some ((xHs G).size + j, xen G (if j + 13 = h.1 then e else h.2.2 (j + 13))) else none
  by_cases hj : j < h.1 - 13
  · rw [List.getElem?_append_left (by rw [xws_len]; exact hj), xws_get, if_pos hj, if_pos (by omega), if_neg (by omega)]
  · rw [List.getElem?_append_right (by rw [xws_len]; omega), xws_len]
    by_cases he : j = h.1 - 13
    · subst he
      rw [Nat.sub_self, if_pos (by omega), if_pos (by omega)]
      rfl
    · rw [if_neg (by omega), List.getElem?_eq_none (by simp; omega)]
/-! the locals -/
def xas (G : XG) (L : XL) : List (Nat × Value) := (List.range L.length).filterMap fun i => match L[i]? with
  | some (some v) => some (i, xde G v)
  | _ => none
theorem xas_mem {G : XG} {L : XL} {i : Nat} {v : Value} (h : L[i]? = some (some v)) : (i, xde G v) ∈ xas G L :=
  List.mem_filterMap.mpr ⟨i, List.mem_range.mpr (List.getElem?_eq_some_iff.mp h).1, by rw [h]⟩
theorem xas_inv {G : XG} {L : XL} {q : Nat × Value} (h : q ∈ xas G L) : ∃ v, L[q.1]? = some (some v) ∧ q.2 = xde G v := by
  obtain ⟨i, -, hi⟩ := List.mem_filterMap.mp h
  split at hi
  · rename_i v hv
    cases hi
    exact ⟨v, hv, rfl⟩
  · cases hi
def xlo (G : XG) (ls : Array Slot) (L : XL) : Prop := lv_has ls L.length (xas G L)
theorem xlo_at {G : XG} {ls : Array Slot} {L : XL} {i : Nat} {v : Value} (h : xlo G ls L) (hi : L[i]? = some (some v)) : ls[i]? = some (.val (xde G v)) := h.2.2 _ (xas_mem hi)
theorem xfree_ne {L : XL} {i j : Nat} {v : Value} (h : xfree L i = true) (hj : j + 1 = i) (hv : L[j]? = some (some v)) : v.category ≠ 2 := by
  subst hj
  simpa [xfree, hv] using h
theorem xlo_set {G : XG} {ls' : Array Slot} {L : XL} {i : Nat} {v : Value} (hn : i < L.length) (hf : xfree L i = true)
    (h : lv_has ls' L.length ((i, xde G v) :: (xas G L).filter (fun q => !(q.1 == i) && !(q.1 + 1 == i && q.2.category == 2)))) : xlo G ls' (L.set i (some v)) := by
  refine ⟨h.1.trans (by simp), h.2.1, fun q hq => h.2.2 q ?_⟩
  obtain ⟨w, hw, hq2⟩ := xas_inv hq
  by_cases hi : q.1 = i
  · rw [hi, List.getElem?_set_self hn] at hw
    cases hw
    exact List.mem_cons.mpr (Or.inl (Prod.ext hi hq2))
  · rw [List.getElem?_set_ne (Ne.symm hi)] at hw
    refine List.mem_cons.mpr (Or.inr (List.mem_filter.mpr ⟨?_, ?_⟩))
    · have h1 := xas_mem (G := G) hw
      rw [← hq2] at h1
      exact h1
    · have h2 : ¬ (q.1 + 1 = i ∧ q.2.category = 2) := fun z => xfree_ne hf z.1 hw (by rw [← xde_cat G, ← hq2]; exact z.2)
      simp only [Bool.and_eq_true, Bool.not_eq_true', beq_eq_false_iff_ne, ne_eq, Bool.and_eq_false_iff]
      refine ⟨hi, ?_⟩
      by_cases a : q.1 + 1 = i
      · exact Or.inr fun b => h2 ⟨a, b⟩
      · exact Or.inl a
theorem xlo_set2 {G : XG} {ls' : Array Slot} {L : XL} {i : Nat} {v : Value} (hn : i + 1 < L.length) (hf : xfree L i = true)
    (h : lv_has ls' L.length ((i, xde G v) :: (xas G L).filter (fun q => !(q.1 == i) && (!(q.1 == i + 1) && !(q.1 + 1 == i && q.2.category == 2))))) : xlo G ls' ((L.set i (some v)).set (i + 1) none) := by
  refine ⟨h.1.trans (by simp), h.2.1, fun q hq => h.2.2 q ?_⟩
  obtain ⟨w, hw, hq2⟩ := xas_inv hq
  by_cases hi1 : q.1 = i + 1
  · rw [hi1, List.getElem?_set_self (by simpa using hn)] at hw
    cases hw
  rw [List.getElem?_set_ne (Ne.symm hi1)] at hw
  by_cases hi : q.1 = i
  · rw [hi, List.getElem?_set_self (by omega)] at hw
    cases hw
    exact List.mem_cons.mpr (Or.inl (Prod.ext hi hq2))
  · rw [List.getElem?_set_ne (Ne.symm hi)] at hw
    refine List.mem_cons.mpr (Or.inr (List.mem_filter.mpr ⟨?_, ?_⟩))
    · have h1 := xas_mem (G := G) hw
      rw [← hq2] at h1
      exact h1
    · have h2 : ¬ (q.1 + 1 = i ∧ q.2.category = 2) := fun z => xfree_ne hf z.1 hw (by rw [← xde_cat G, ← hq2]; exact z.2)
      simp only [Bool.and_eq_true, Bool.not_eq_true', beq_eq_false_iff_ne, ne_eq, Bool.and_eq_false_iff]
      refine ⟨hi, hi1, ?_⟩
      by_cases a : q.1 + 1 = i
      · exact Or.inr fun b => h2 ⟨a, b⟩
      · exact Or.inl a
/-! steps of one shape, for any walk 'w' -/
section XSH
variable {w : JFrame → Prop} {G : XG} {m : MethodId} {pc q : Nat} {ls : Array Slot} {L : XL} {st : List Value} {i : Nat} {o : XO}
theorem xs_ldi (hlo : xlo G ls L) (h : xldi q L st i = some o) (row : ∀ x : Int32, ls[i]? = some (.val (.int x)) → w (F0 m q ls (.int x :: st.map (xde G))) → w (F0 m pc ls (st.map (xde G))))
    (kk : ∀ ls', xlo G ls' o.2.1 → o.2.1.length = L.length → w (F0 m o.1 ls' (o.2.2.map (xde G)))) : w (F0 m pc ls (st.map (xde G))) := by
  unfold xldi at h
  split at h
  · rename_i v hv
    cases h
    exact row v (xlo_at hlo hv) (kk _ hlo rfl)
  · cases h
theorem xs_ldl (hlo : xlo G ls L) (h : xldl q L st i = some o) (row : ∀ x : Int64, ls[i]? = some (.val (.long x)) → w (F0 m q ls (.long x :: st.map (xde G))) → w (F0 m pc ls (st.map (xde G))))
    (kk : ∀ ls', xlo G ls' o.2.1 → o.2.1.length = L.length → w (F0 m o.1 ls' (o.2.2.map (xde G)))) : w (F0 m pc ls (st.map (xde G))) := by
  unfold xldl at h
  split at h
  · rename_i v hv
    cases h
    exact row v (xlo_at hlo hv) (kk _ hlo rfl)
  · cases h
theorem xs_lda (hlo : xlo G ls L) (h : xlda q L st i = some o) (row : ∀ x : Nat, ls[i]? = some (.val (.ref x)) → w (F0 m q ls (.ref x :: st.map (xde G))) → w (F0 m pc ls (st.map (xde G))))
    (rowN : ls[i]? = some (.val .null) → w (F0 m q ls (.null :: st.map (xde G))) → w (F0 m pc ls (st.map (xde G))))
    (kk : ∀ ls', xlo G ls' o.2.1 → o.2.1.length = L.length → w (F0 m o.1 ls' (o.2.2.map (xde G)))) : w (F0 m pc ls (st.map (xde G))) := by
  unfold xlda at h
  split at h
  · rename_i v hv
    cases h
    exact row _ (xlo_at hlo hv) (kk _ hlo rfl)
  · rename_i hv
    cases h
    exact rowN (xlo_at hlo hv) (kk _ hlo rfl)
  · cases h
theorem xs_sti (hlo : xlo G ls L) (h : xsti q L st i = some o) (row : ∀ (x : Int32) (r : List Value), i < L.length → (∀ ls', lv_has ls' L.length ((i, Value.int x) :: (xas G L).filter (fun q => !(q.1 == i) && !(q.1 + 1 == i && q.2.category == 2))) → w (F0 m q ls' r)) → w (F0 m pc ls (.int x :: r)))
    (kk : ∀ ls', xlo G ls' o.2.1 → o.2.1.length = L.length → w (F0 m o.1 ls' (o.2.2.map (xde G)))) : w (F0 m pc ls (st.map (xde G))) := by
  unfold xsti at h
  split at h
  · split at h
    · rename_i hc
      cases h
      exact row _ _ hc.1 fun ls' h' => kk ls' (xlo_set hc.1 hc.2 h') (by simp)
    · cases h
  · cases h
theorem xs_sta (hlo : xlo G ls L) (h : xsta q L st i = some o) (row : ∀ (x : Nat) (r : List Value), i < L.length → (∀ ls', lv_has ls' L.length ((i, Value.ref x) :: (xas G L).filter (fun q => !(q.1 == i) && !(q.1 + 1 == i && q.2.category == 2))) → w (F0 m q ls' r)) → w (F0 m pc ls (.ref x :: r)))
    (rowN : ∀ (r : List Value), i < L.length → (∀ ls', lv_has ls' L.length ((i, Value.null) :: (xas G L).filter (fun q => !(q.1 == i) && !(q.1 + 1 == i && q.2.category == 2))) → w (F0 m q ls' r)) → w (F0 m pc ls (.null :: r)))
    (kk : ∀ ls', xlo G ls' o.2.1 → o.2.1.length = L.length → w (F0 m o.1 ls' (o.2.2.map (xde G)))) : w (F0 m pc ls (st.map (xde G))) := by
  unfold xsta at h
  split at h
  · rename_i v r
    split at h
    · rename_i hc
      cases h
      exact row _ _ hc.1 fun ls' h' => kk ls' (xlo_set (v := .ref v) hc.1 hc.2 h') (by simp)
    · cases h
  · split at h
    · rename_i hc
      cases h
      exact rowN _ hc.1 fun ls' h' => kk ls' (xlo_set (v := .null) hc.1 hc.2 h') (by simp)
    · cases h
  · cases h
theorem xs_stl (hlo : xlo G ls L) (h : xstl q L st i = some o) (row : ∀ (x : Int64) (r : List Value), i + 1 < L.length → (∀ ls', lv_has ls' L.length ((i, Value.long x) :: (xas G L).filter (fun q => !(q.1 == i) && (!(q.1 == i + 1) && !(q.1 + 1 == i && q.2.category == 2)))) → w (F0 m q ls' r)) → w (F0 m pc ls (.long x :: r)))
    (kk : ∀ ls', xlo G ls' o.2.1 → o.2.1.length = L.length → w (F0 m o.1 ls' (o.2.2.map (xde G)))) : w (F0 m pc ls (st.map (xde G))) := by
  unfold xstl at h
  split at h
  · rename_i v r
    split at h
    · rename_i hc
      cases h
      exact row _ _ hc.1 fun ls' h' => kk ls' (xlo_set2 (v := .long v) hc.1 hc.2 h') (by simp)
    · cases h
  · cases h
theorem xs_b2 {f : Int32 → Int32 → Int32} (hlo : xlo G ls L) (h : xb2 f q L st = some o) (row : ∀ (x y : Int32) (r : List Value), w (F0 m q ls (.int (f x y) :: r)) → w (F0 m pc ls (.int y :: .int x :: r)))
    (kk : ∀ ls', xlo G ls' o.2.1 → o.2.1.length = L.length → w (F0 m o.1 ls' (o.2.2.map (xde G)))) : w (F0 m pc ls (st.map (xde G))) := by
  unfold xb2 at h
  split at h
  · cases h
    exact row _ _ _ (kk _ hlo rfl)
  · cases h
theorem xs_l2 {f : Int64 → Int64 → Int64} (hlo : xlo G ls L) (h : xl2 f q L st = some o) (row : ∀ (x y : Int64) (r : List Value), w (F0 m q ls (.long (f x y) :: r)) → w (F0 m pc ls (.long y :: .long x :: r)))
    (kk : ∀ ls', xlo G ls' o.2.1 → o.2.1.length = L.length → w (F0 m o.1 ls' (o.2.2.map (xde G)))) : w (F0 m pc ls (st.map (xde G))) := by
  unfold xl2 at h
  split at h
  · cases h
    exact row _ _ _ (kk _ hlo rfl)
  · cases h
theorem xs_ls {f : Int64 → Int32 → Int64} (hlo : xlo G ls L) (h : xls f q L st = some o) (row : ∀ (x : Int64) (y : Int32) (r : List Value), w (F0 m q ls (.long (f x y) :: r)) → w (F0 m pc ls (.int y :: .long x :: r)))
    (kk : ∀ ls', xlo G ls' o.2.1 → o.2.1.length = L.length → w (F0 m o.1 ls' (o.2.2.map (xde G)))) : w (F0 m pc ls (st.map (xde G))) := by
  unfold xls at h
  split at h
  · cases h
    exact row _ _ _ (kk _ hlo rfl)
  · cases h
end XSH
