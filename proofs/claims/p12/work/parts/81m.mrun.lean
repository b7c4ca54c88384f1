/-! the model's run -/
/-- the model while a grant goes -/
def MG (H : XH) (e hs hc bg : Nat → Int32) : XH := (549, 14048, fun j => if j = 536 then .inl (7, mO e) else if j = 543 then .inr (.inl (0, 41, hs)) else if j = 544 then .inr (.inl (0, 41, hc)) else if j = 545 then .inr (.inl (0, 6, bg)) else H.2.2 j)
def GE (e : Nat → Int32) (σ : GS) : Nat → Int32 := upd (upd (upd (upd e 14 (o2i σ.1)) 15 (nI σ.2.1)) 16 (b01 σ.2.2.1)) 17 σ.2.2.2.1
abbrev MGs (H : XH) (e hs hc : Nat → Int32) (σ : GS) : XH := MG H (GE e σ) hs hc σ.2.2.2.2
section MR
variable {H : XH} {e hs hc bg f : Nat → Int32} {s : LV} {n m : Nat}
theorem MG.ob {e2 : Nat → Int32} : xup (MG H e hs hc bg) 536 (.inl (7, mO e2)) = MG H e2 hs hc bg := by
  unfold xup MG
  refine Prod.ext rfl (Prod.ext rfl (funext fun j => ?_))
  dsimp only
  by_cases q : j = 536
  · simp only [if_pos q]
  · simp only [if_neg q]
theorem MG.se {x : Nat → Int32} : xup (MG H e hs hc bg) 543 (.inr (.inl (0, 41, x))) = MG H e x hc bg := by
  unfold xup MG
  refine Prod.ext rfl (Prod.ext rfl (funext fun j => ?_))
  dsimp only
  by_cases q : j = 543
  · subst q
    rfl
  · simp only [if_neg q]
theorem MG.cl {x : Nat → Int32} : xup (MG H e hs hc bg) 544 (.inr (.inl (0, 41, x))) = MG H e hs x bg := by
  unfold xup MG
  refine Prod.ext rfl (Prod.ext rfl (funext fun j => ?_))
  dsimp only
  by_cases q : j = 544
  · subst q
    rfl
  · simp only [if_neg q]
theorem MG.be {x : Nat → Int32} : xup (MG H e hs hc bg) 545 (.inr (.inl (0, 6, x))) = MG H e hs hc x := by
  unfold xup MG
  refine Prod.ext rfl (Prod.ext rfl (funext fun j => ?_))
  dsimp only
  by_cases q : j = 545
  · subst q
    rfl
  · simp only [if_neg q]
theorem MG.eq {e2 : Nat → Int32} (h : mO e = mO e2) : MG H e hs hc bg = MG H e2 hs hc bg := by
  unfold MG
  rw [h]
theorem mg_k (h7 : H.2.2 537 = .inr (.inl (0, 490, f))) : LVk (MG H e hs hc bg) (mO e) f := ⟨rfl, rfl, h7, rfl, rfl, rfl, rfl, rfl⟩
theorem mg_s (h : LVr H s) : LVr (MG H e hs hc bg) s := h
theorem mg_r {M : XMeth} (hM : xmC M = 7) {as : List Value} (ha : as.head? = some (.ref 536)) : xrecv M as (MG H e hs hc bg) := fun _ => ⟨536, _, ha, by rw [hM]; rfl, by decide, Nat.le_of_ble_eq_true rfl⟩
theorem upd_self {f : Nat → Int32} {c : Nat} : upd f c (f c) = f := funext fun j => by
  by_cases q : j = c
  · rw [q, upd_at]
  · rw [upd_ne q]
theorem XGo.p14 {d : Nat} {M : XMeth} {pc idx len w : Nat} {L : XL} {st : List Value} {v : Option Value} {hend : XH} {x : Int32} (hm : xfind (xmT M) pc = some (pc, .putfield idx, len, 7, 14, w)) (g : XGo d M (pc + 3, L, st, MG H (upd e 14 x) hs hc bg) v hend) : XGo d M (pc, L, .int x :: .ref 536 :: st, MG H e hs hc bg) v hend := by
  refine XGo.putf hm (rfl : (MG H e hs hc bg).2.2 536 = _) (Nat.le_of_ble_eq_true rfl) (by decide) (Nat.le_of_ble_eq_true rfl) rfl rfl ?_
  rw [show (mO e).set 14 (.int x) = mO (upd e 14 x) from rfl, MG.ob]
  exact g
theorem XGo.p15 {d : Nat} {M : XMeth} {pc idx len w : Nat} {L : XL} {st : List Value} {v : Option Value} {hend : XH} {x : Int32} (hm : xfind (xmT M) pc = some (pc, .putfield idx, len, 7, 15, w)) (g : XGo d M (pc + 3, L, st, MG H (upd e 15 x) hs hc bg) v hend) : XGo d M (pc, L, .int x :: .ref 536 :: st, MG H e hs hc bg) v hend := by
  refine XGo.putf hm (rfl : (MG H e hs hc bg).2.2 536 = _) (Nat.le_of_ble_eq_true rfl) (by decide) (Nat.le_of_ble_eq_true rfl) rfl rfl ?_
  rw [show (mO e).set 15 (.int x) = mO (upd e 15 x) from rfl, MG.ob]
  exact g
theorem XGo.p17 {d : Nat} {M : XMeth} {pc idx len w : Nat} {L : XL} {st : List Value} {v : Option Value} {hend : XH} {x : Int32} (hm : xfind (xmT M) pc = some (pc, .putfield idx, len, 7, 17, w)) (g : XGo d M (pc + 3, L, st, MG H (upd e 17 x) hs hc bg) v hend) : XGo d M (pc, L, .int x :: .ref 536 :: st, MG H e hs hc bg) v hend := by
  refine XGo.putf hm (rfl : (MG H e hs hc bg).2.2 536 = _) (Nat.le_of_ble_eq_true rfl) (by decide) (Nat.le_of_ble_eq_true rfl) rfl rfl ?_
  rw [show (mO e).set 17 (.int x) = mO (upd e 17 x) from rfl, MG.ob]
  exact g
theorem XGo.p16 {d : Nat} {M : XMeth} {pc idx len w : Nat} {L : XL} {st : List Value} {v : Option Value} {hend : XH} (x : Bool) (hm : xfind (xmT M) pc = some (pc, .putfield idx, len, 7, 16, w)) (g : XGo d M (pc + 3, L, st, MG H (upd e 16 (b01 x)) hs hc bg) v hend) : XGo d M (pc, L, .int (b01 x) :: .ref 536 :: st, MG H e hs hc bg) v hend := by
  refine XGo.putf hm (rfl : (MG H e hs hc bg).2.2 536 = _) (Nat.le_of_ble_eq_true rfl) (by decide) (Nat.le_of_ble_eq_true rfl) (by cases x <;> rfl) (by cases x <;> rfl) ?_
  rw [show (mO e).set 16 (.int (b01 x)) = mO (upd e 16 (b01 x)) from rfl, MG.ob]
  exact g
theorem XGo.ibg {d : Nat} {M : XMeth} {pc len a b w c : Nat} {x i : Int32} {L : XL} {st : List Value} {v : Option Value} {hend : XH} (h6 : c < 6) (hm : xfind (xmT M) pc = some (pc, .iastore, len, a, b, w)) (ei : i = nI c) (g : XGo d M (pc + 1, L, st, MG H e hs hc (upd bg c x)) v hend) : XGo d M (pc, L, .int x :: .int i :: .ref 545 :: st, MG H e hs hc bg) v hend := by
  subst ei
  refine XGo.iast hm (n := 6) (f := bg) rfl (Nat.le_of_ble_eq_true rfl) (by decide) (ca_nI h6 (by decide)) ?_
  rw [xnI_nat (by omega), MG.be]
  exact g
theorem XGo.ihs {d : Nat} {M : XMeth} {pc len a b w c : Nat} {x i : Int32} {L : XL} {st : List Value} {v : Option Value} {hend : XH} (h6 : c < 41) (hm : xfind (xmT M) pc = some (pc, .iastore, len, a, b, w)) (ei : i = nI c) (g : XGo d M (pc + 1, L, st, MG H e (upd hs c x) hc bg) v hend) : XGo d M (pc, L, .int x :: .int i :: .ref 543 :: st, MG H e hs hc bg) v hend := by
  subst ei
  refine XGo.iast hm (n := 41) (f := hs) rfl (Nat.le_of_ble_eq_true rfl) (by decide) (ca_nI h6 (by decide)) ?_
  rw [xnI_nat (by omega), MG.se]
  exact g
theorem XGo.ihc {d : Nat} {M : XMeth} {pc len a b w c : Nat} {x i : Int32} {L : XL} {st : List Value} {v : Option Value} {hend : XH} (h6 : c < 41) (hm : xfind (xmT M) pc = some (pc, .iastore, len, a, b, w)) (ei : i = nI c) (g : XGo d M (pc + 1, L, st, MG H e hs (upd hc c x) bg) v hend) : XGo d M (pc, L, .int x :: .int i :: .ref 544 :: st, MG H e hs hc bg) v hend := by
  subst ei
  refine XGo.iast hm (n := 41) (f := hc) rfl (Nat.le_of_ble_eq_true rfl) (by decide) (ca_nI h6 (by decide)) ?_
  rw [xnI_nat (by omega), MG.cl]
  exact g
set_option maxRecDepth 100000 in
/-- runsNext -/
theorem k_rn (d : Nat) (o : Option Nat) (ho : ∀ c, o = some c → c < 6) (σ : GS) : XCall xM (d + 1) 144 [.ref 536, .int (o2i o)] (MGs H e hs hc σ) none (MGs H e hs hc (rnS o σ)) := by
  refine XCall.of (M := xm_X7_runsNext) rfl (Nat.le_of_ble_eq_true rfl) ?_
  refine XGo.go 2 rfl ?_
  refine XGo.p14 rfl ?_
  have fin : ∀ l : Nat, l = o.getD σ.2.1 → XGo d xm_X7_runsNext (19, [some (.ref 536), some (.int (o2i o))], [.int (nI l), .ref 536], MG H (upd (GE e σ) 14 (o2i o)) hs hc σ.2.2.2.2) none (MGs H e hs hc (rnS o σ)) := fun l el => by
    refine XGo.p15 rfl ?_
    refine XGo.go 2 rfl ?_
    refine XGo.p16 false rfl ?_
    refine XGo.go 2 rfl ?_
    refine XGo.p17 rfl ?_
    rw [show MGs H e hs hc (rnS o σ) = MG H (upd (upd (upd (upd (GE e σ) 14 (o2i o)) 15 (nI l)) 16 (b01 false)) 17 (Int32.ofInt 0)) hs hc σ.2.2.2.2 from by
      subst el
      exact MG.eq rfl]
    exact XGo.vret _ rfl rfl rfl
  refine XGo.go 4 rfl ?_
  cases o with
  | none =>
    refine XGo.ifp rfl ?_
    refine XGo.go 3 rfl ?_
    exact fin σ.2.1 rfl
  | some c =>
    have := ho c rfl
    refine XGo.ifn (nI_nm1 (by omega)) ?_
    refine XGo.go 1 rfl ?_
    exact fin c rfl
end MR
/-! the model's run: a year -/
theorem sh_lt {f : Nat → Int32} {s : LV} {g y : Nat} : ∀ (q c r : Nat), shS f s g y q c = some r → c ≤ r ∧ r < c + q
  | 0, _, _, h => by cases h
  | q + 1, c, r, h => by
    unfold shS at h
    split at h
    · cases h
      omega
    · have := sh_lt q (c + 1) r h
      omega
theorem nx_lt {f : Nat → Int32} {g : Nat} : ∀ (q c r : Nat), nxS f g q c = some r → c ≤ r ∧ r < c + q
  | 0, _, _, h => by cases h
  | q + 1, c, r, h => by
    unfold nxS at h
    split at h
    · cases h
      omega
    · have := nx_lt q (c + 1) r h
      omega
/-- a run's state is as it may be -/
def GK (nc : Nat) (σ : GS) : Prop := σ.2.1 < nc ∧ ∀ c, σ.1 = some c → c = σ.2.1
theorem gk_rn {nc : Nat} {σ : GS} (h : GK nc σ) {o : Option Nat} (ho : ∀ c, o = some c → c < nc) : GK nc (rnS o σ) := by
  cases o with
  | none => exact ⟨h.1, fun c e => by cases e⟩
  | some c => exact ⟨ho c rfl, fun c' e => by cases e; rfl⟩
theorem gk_be {f : Nat → Int32} {n m : Nat} {s : LV} {g y c nc : Nat} {σ : GS} (h : GK nc σ) : GK nc (beS f n m s g y c σ) := by
  unfold beS
  split
  · exact h
  · exact h
theorem gk_se {f : Nat → Int32} {n m : Nat} {s : LV} {g nc y : Nat} : ∀ (k : Nat) (σ : GS), GK nc σ → GK nc (seS f n m s g nc y k σ)
  | 0, _, h => h
  | k + 1, σ, h => by
    unfold seS
    split
    · exact h
    · rename_i c e
      split
      · refine gk_se k _ (gk_rn (gk_be h) fun c' e' => ?_)
        have := nx_lt _ _ _ e'
        omega
      · exact gk_be h
theorem gk_ys {f : Nat → Int32} {s : LV} {g nc y : Nat} {σ : GS} (h : GK nc σ) : GK nc (ysS f s g nc y σ) := by
  unfold ysS
  split
  · exact h
  · rename_i c e
    refine gk_rn h fun c' e' => ?_
    cases e'
    have := sh_lt _ _ _ e
    omega
theorem gk_go {f : Nat → Int32} {n m : Nat} {s : LV} {g nc : Nat} {b0 : Nat → Int32} (h : 0 < nc) : ∀ y, GK nc (goY f n m s g nc b0 y)
  | 0 => ⟨h, fun c e => by cases e; rfl⟩
  | y + 1 => gk_se 6 _ (gk_ys (gk_go h y))
section MR
variable {H : XH} {e hs hc bg f : Nat → Int32} {s : LV} {n m : Nat}
abbrev ygL (g y : Nat) (sh : Int32) (more a : Option Value) : XL := [some (.ref 536), some (.int (nI g)), some (.int (nI y)), some (.int sh), more, a]
theorem rc_n {nc g : Nat} (hnc : nc ≤ 6) {c c' : Nat} (hc : c < nc) (h : nxS f g (nc - (c + 1)) (c + 1) = some c') : c' < 6 := by
  have := nx_lt _ _ _ h
  omega
set_option maxRecDepth 100000 in
/-- a clause that has begun -/
theorem yg_b (d : Nat) (h7 : H.2.2 537 = .inr (.inl (0, 490, f))) (hS : LVr H s) {g y nc c l : Nat} {t : Int32} {bg : Nat → Int32} (hg : g < 6) (hnc : nc ≤ 6) (hf : f (130 + g) = nI nc) (hc6 : c < nc) (hy : y < 2147483648) {sh : Int32} {a : Option Value} {F : XH}
    (k1 : enS f s (atC g c) (bg c) t y = true → ∀ a, XGo (d + 5) xm_X7_yearGoes (36, ygL g y sh (some (.int (b01 (nxS f g (nc - (c + 1)) (c + 1)).isSome))) a, [], MGs H e hs hc (rnS (nxS f g (nc - (c + 1)) (c + 1)) (some c, l, true, t, bg))) none F) (k0 : enS f s (atC g c) (bg c) t y = false → F = MGs H e hs hc (some c, l, true, t, bg)) : XGo (d + 5) xm_X7_yearGoes (36, ygL g y sh (some (.int (b01 true))) a, [], MGs H e hs hc (some c, l, true, t, bg)) none F := by
  have hK := mg_k (e := GE e (some c, l, true, t, bg)) (hs := hs) (hc := hc) (bg := bg) h7
  have hS' := mg_s (e := GE e (some c, l, true, t, bg)) (hs := hs) (hc := hc) (bg := bg) hS
  refine XGo.go 1 rfl ?_
  refine XGo.go 1 rfl ?_
  refine XGo.ifn (by decide) ?_
  refine XGo.go 3 rfl ?_
  refine XGo.call _ rfl xm_X7_at rfl rfl [.int (nI g), .int (nI c)] [] rfl rfl (fun z => absurd rfl z) (Nat.le_of_ble_eq_true rfl) (k_atg (d + 4) hg (by omega)) ?_
  refine XGo.go 4 rfl ?_
  refine XGo.ifn (show ¬ b01 true = 0 by decide) ?_
  refine XGo.go 6 rfl ?_
  refine XGo.iald rfl (xia_i (n := 6) (f := bg) rfl (Nat.le_of_ble_eq_true rfl) (ca_nI (show c < 6 by omega) (by decide))) ?_
  refine XGo.top (show bg (nI c).toNatClampNeg = bg c by rw [xnI_nat (show c < 2147483648 by omega)]) ?_
  refine XGo.go 3 rfl ?_
  refine XGo.call _ rfl xm_X7_ends rfl rfl [.ref 536, .int (nI (atC g c)), .int (bg c), .int t, .int (nI y)] [] rfl rfl (mg_r rfl rfl) (Nat.le_of_ble_eq_true rfl) (k_en (d + 2) hK hS' (by unfold atC; omega) (bg c) t hy) ?_
  refine XGo.go 1 rfl ?_
  cases he : enS f s (atC g c) (bg c) t y
  · rw [k0 he]
    refine XGo.ifp rfl ?_
    refine XGo.go 3 rfl ?_
    refine XGo.go 2 rfl ?_
    refine XGo.ifp rfl ?_
    exact XGo.vret _ rfl rfl rfl
  · refine XGo.ifn (by decide) ?_
    refine XGo.go 5 rfl ?_
    refine XGo.call _ rfl xm_X7_nextOf rfl rfl [.ref 536, .int (nI g), .int (nI c)] [.ref 536] rfl rfl (mg_r rfl rfl) (Nat.le_of_ble_eq_true rfl) (k_nx (d + 3) hK hg hnc hf (by omega)) ?_
    refine XGo.call _ rfl xm_X7_runsNext rfl rfl [.ref 536, .int (o2i (nxS f g (nc - (c + 1)) (c + 1)))] [] rfl rfl (mg_r rfl rfl) (Nat.le_of_ble_eq_true rfl) (k_rn (d + 4) _ (fun c' h' => rc_n hnc hc6 h') (some c, l, true, t, bg)) ?_
    have k1 := k1 he
    cases ho : nxS f g (nc - (c + 1)) (c + 1) with
    | none =>
      rw [ho] at k1
      refine XGo.go 4 rfl ?_
      refine XGo.ifp rfl ?_
      refine XGo.go 4 rfl ?_
      exact k1 _
    | some c' =>
      have := rc_n hnc hc6 ho
      rw [ho] at k1
      refine XGo.go 4 rfl ?_
      refine XGo.ifn (nI_nm1 (show c' < 1000 by omega)) ?_
      refine XGo.go 5 rfl ?_
      exact k1 _
set_option maxRecDepth 100000 in
/-- the loop of a year -/
theorem yg_l (d : Nat) (h7 : H.2.2 537 = .inr (.inl (0, 490, f))) (hS : LVr H s) (h0 : f 0 = nI n) (hn : n ≤ 8) (h1 : f 1 = nI m) (hm : m ≤ 6) {g y nc : Nat} (hg : g < 6) (hnc : nc ≤ 6) (hf : f (130 + g) = nI nc) (hC : ∀ c, c < nc → CB f (atC g c)) (hy : y < 2147483648) {sh : Int32} : ∀ (k : Nat) (σ : GS) (a : Option Value), GK nc σ → (∀ c, σ.1 = some c → nc ≤ c + k) → XGo (d + 5) xm_X7_yearGoes (36, ygL g y sh (some (.int (b01 σ.1.isSome))) a, [], MGs H e hs hc σ) none (MGs H e hs hc (seS f n m s g nc y k σ))
  | k, (none, l, b, t, bg), a, hk, hf2 => by
    rw [show seS f n m s g nc y k (none, l, b, t, bg) = (none, l, b, t, bg) by cases k <;> rfl]
    refine XGo.go 1 rfl ?_
    refine XGo.go 1 rfl ?_
    refine XGo.ifp rfl ?_
    exact XGo.vret _ rfl rfl rfl
  | 0, (some c, l, b, t, bg), a, hk, hf2 => by
    have := hf2 c rfl
    have e2 : c = l := hk.2 c rfl
    have : l < nc := hk.1
    omega
  | k + 1, (some c, l, b, t, bg), a, hk, hf2 => by
    have hcn : c < nc := by
      have e2 : c = l := hk.2 c rfl
      have : l < nc := hk.1
      omega
    have hc2 := hf2 c rfl
    have ih := fun (t : Int32) (bg : Nat → Int32) (a : Option Value) => yg_l d h7 hS h0 hn h1 hm hg hnc hf hC hy (sh := sh) k (rnS (nxS f g (nc - (c + 1)) (c + 1)) (some c, l, true, t, bg)) a (gk_rn (σ := (some c, l, true, t, bg)) ⟨hk.1, hk.2⟩ fun c' h' => by have := nx_lt _ _ _ h'; omega) (fun c' h' => by
      have h' : nxS f g (nc - (c + 1)) (c + 1) = some c' := h'
      have := nx_lt _ _ _ h'
      omega)
    have begun : ∀ (t : Int32) (bg : Nat → Int32) (a : Option Value) (F : XH), (enS f s (atC g c) (bg c) t y = true → F = MGs H e hs hc (seS f n m s g nc y k (rnS (nxS f g (nc - (c + 1)) (c + 1)) (some c, l, true, t, bg)))) → (enS f s (atC g c) (bg c) t y = false → F = MGs H e hs hc (some c, l, true, t, bg)) → XGo (d + 5) xm_X7_yearGoes (36, ygL g y sh (some (.int (b01 true))) a, [], MGs H e hs hc (some c, l, true, t, bg)) none F := fun t bg a F q1 q0 => by
      refine yg_b d h7 hS hg hnc hf hcn hy (fun he a => ?_) q0
      rw [q1 he]
      exact ih t bg a
    cases b with
    | true =>
      refine begun t bg a _ (fun he => ?_) (fun he => ?_)
      · show MGs H e hs hc (if enS f s (atC g c) (bg c) t y = true then _ else _) = _
        rw [if_pos he]
        rfl
      · show MGs H e hs hc (if enS f s (atC g c) (bg c) t y = true then _ else _) = _
        rw [he]
        rfl
    | false =>
      have hK := mg_k (e := GE e (some c, l, false, t, bg)) (hs := hs) (hc := hc) (bg := bg) h7
      have hS' := mg_s (e := GE e (some c, l, false, t, bg)) (hs := hs) (hc := hc) (bg := bg) hS
      have eS : seS f n m s g nc y (k + 1) (some c, l, false, t, bg) = if ovS f n m s g y c (some c, l, !decide (tkS f n m s (atC g c) y = 0), tkS f n m s (atC g c) y, if tkS f n m s (atC g c) y = 0 then bg else upd bg c (nI y)) = true then seS f n m s g nc y k (rnS (nxS f g (nc - (c + 1)) (c + 1)) (some c, l, !decide (tkS f n m s (atC g c) y = 0), tkS f n m s (atC g c) y, if tkS f n m s (atC g c) y = 0 then bg else upd bg c (nI y))) else (some c, l, !decide (tkS f n m s (atC g c) y = 0), tkS f n m s (atC g c) y, if tkS f n m s (atC g c) y = 0 then bg else upd bg c (nI y)) := rfl
      refine XGo.go 1 rfl ?_
      refine XGo.go 1 rfl ?_
      refine XGo.ifn (show ¬ b01 true = 0 by decide) ?_
      refine XGo.go 3 rfl ?_
      refine XGo.call _ rfl xm_X7_at rfl rfl [.int (nI g), .int (nI c)] [] rfl rfl (fun z => absurd rfl z) (Nat.le_of_ble_eq_true rfl) (k_atg (d + 4) hg (by omega)) ?_
      refine XGo.go 4 rfl ?_
      refine XGo.ifp (show b01 false = 0 by decide) ?_
      refine XGo.go 4 rfl ?_
      refine XGo.call _ rfl xm_X7_takers rfl rfl [.ref 536, .int (nI (atC g c)), .int (nI y)] [.ref 536] rfl rfl (mg_r rfl rfl) (Nat.le_of_ble_eq_true rfl) (k_tk (d + 1) hK hS' h0 hn h1 hm (hC c hcn) hy) ?_
      refine XGo.p17 rfl ?_
      rw [eS]
      generalize tkS f n m s (atC g c) y = T
      refine XGo.go 4 rfl ?_
      by_cases eT : T = 0
      · rw [if_pos eT, dec_t eT]
        refine XGo.ifp eT ?_
        refine XGo.go 1 rfl ?_
        refine XGo.p16 false rfl ?_
        refine XGo.go 7 rfl ?_
        refine XGo.ifp (show b01 false = 0 by decide) ?_
        refine XGo.go 4 rfl ?_
        refine XGo.iald rfl (xia_i (n := 6) (f := bg) rfl (Nat.le_of_ble_eq_true rfl) (ca_nI (show c < 6 by omega) (by decide))) ?_
        refine XGo.top (show bg (nI c).toNatClampNeg = bg c by rw [xnI_nat (show c < 2147483648 by omega)]) ?_
        refine XGo.ibg (c := c) (by omega) rfl rfl ?_
        rw [upd_self]
        have eH : MG H (upd (upd (GE e (some c, l, false, t, bg)) 17 T) 16 (b01 false)) hs hc bg = MGs H e hs hc (some c, l, false, T, bg) := MG.eq rfl
        refine XGo.go 6 rfl ?_
        refine XGo.ifp (show b01 false = 0 by decide) ?_
        show XGo _ _ (127, ygL g y sh (some (.int (b01 false))) (some (.int (nI (atC g c)))), [], MG H (upd (upd (GE e (some c, l, false, t, bg)) 17 T) 16 (b01 false)) hs hc bg) _ _
        rw [eH]
        have hK2 := mg_k (e := GE e (some c, l, false, T, bg)) (hs := hs) (hc := hc) (bg := bg) h7
        have hS2 := mg_s (e := GE e (some c, l, false, T, bg)) (hs := hs) (hc := hc) (bg := bg) hS
        refine XGo.go 3 rfl ?_
        refine XGo.call _ rfl xm_X7_fails rfl rfl [.ref 536, .int (nI (atC g c)), .int (nI y)] [] rfl rfl (mg_r rfl rfl) (Nat.le_of_ble_eq_true rfl) (k_fa (d + 1) hK2 hS2 h0 hn h1 hm (hC c hcn) hy) ?_
        rw [show ovS f n m s g y c (some c, l, !true, T, bg) = faS f n m s (atC g c) y from rfl]
        refine XGo.go 1 rfl ?_
        cases hfa : faS f n m s (atC g c) y
        · refine XGo.ifp rfl ?_
          refine XGo.go 2 rfl ?_
          refine XGo.go 1 rfl ?_
          refine XGo.ifp rfl ?_
          exact XGo.vret _ rfl rfl rfl
        · refine XGo.ifn (by decide) ?_
          refine XGo.go 5 rfl ?_
          refine XGo.call _ rfl xm_X7_nextOf rfl rfl [.ref 536, .int (nI g), .int (nI c)] [.ref 536] rfl rfl (mg_r rfl rfl) (Nat.le_of_ble_eq_true rfl) (k_nx (d + 3) hK2 hg hnc hf (by omega)) ?_
          refine XGo.call _ rfl xm_X7_runsNext rfl rfl [.ref 536, .int (o2i (nxS f g (nc - (c + 1)) (c + 1)))] [] rfl rfl (mg_r rfl rfl) (Nat.le_of_ble_eq_true rfl) (k_rn (d + 4) _ (fun c' h' => rc_n hnc hcn h') (some c, l, false, T, bg)) ?_
          have k1 := ih T bg
          show XGo _ _ _ _ (MGs H e hs hc (seS f n m s g nc y k (rnS (nxS f g (nc - (c + 1)) (c + 1)) (some c, l, true, T, bg))))
          rw [show MGs H e hs hc (rnS (nxS f g (nc - (c + 1)) (c + 1)) (some c, l, false, T, bg)) = MGs H e hs hc (rnS (nxS f g (nc - (c + 1)) (c + 1)) (some c, l, true, T, bg)) from rfl]
          cases ho : nxS f g (nc - (c + 1)) (c + 1) with
          | none =>
            rw [ho] at k1
            refine XGo.go 4 rfl ?_
            refine XGo.ifp rfl ?_
            refine XGo.go 4 rfl ?_
            exact k1 _
          | some c' =>
            have := rc_n hnc hcn ho
            rw [ho] at k1
            refine XGo.go 4 rfl ?_
            refine XGo.ifn (nI_nm1 (show c' < 1000 by omega)) ?_
            refine XGo.go 5 rfl ?_
            exact k1 _
      · rw [if_neg eT, dec_f eT]
        refine XGo.ifn eT ?_
        refine XGo.go 2 rfl ?_
        refine XGo.p16 true rfl ?_
        refine XGo.go 7 rfl ?_
        refine XGo.ifn (show ¬ b01 true = 0 by decide) ?_
        refine XGo.go 2 rfl ?_
        refine XGo.ibg (c := c) (by omega) rfl rfl ?_
        have eH : MG H (upd (upd (GE e (some c, l, false, t, bg)) 17 T) 16 (b01 true)) hs hc (upd bg c (nI y)) = MGs H e hs hc (some c, l, true, T, upd bg c (nI y)) := MG.eq rfl
        refine XGo.go 6 rfl ?_
        refine XGo.ifn (show ¬ b01 true = 0 by decide) ?_
        refine XGo.go 1 rfl ?_
        show XGo _ _ (36, ygL g y sh (some (.int (b01 true))) (some (.int (nI (atC g c)))), [], MG H (upd (upd (GE e (some c, l, false, t, bg)) 17 T) 16 (b01 true)) hs hc (upd bg c (nI y))) _ _
        rw [eH]
        refine begun T (upd bg c (nI y)) _ _ (fun he => ?_) (fun he => ?_)
        · show MGs H e hs hc (if enS f s (atC g c) (upd bg c (nI y) c) T y = true then _ else _) = _
          rw [if_pos he]
          rfl
        · show MGs H e hs hc (if enS f s (atC g c) (upd bg c (nI y) c) T y = true then _ else _) = _
          rw [he]
          rfl
  termination_by k => k
set_option maxRecDepth 100000 in
/-- a year goes -/
theorem k_yg (d : Nat) (h7 : H.2.2 537 = .inr (.inl (0, 490, f))) (hS : LVr H s) (h0 : f 0 = nI n) (hn : n ≤ 8) (h1 : f 1 = nI m) (hm : m ≤ 6) {g y nc : Nat} (hg : g < 6) (hnc : nc ≤ 6) (hf : f (130 + g) = nI nc) (hC : ∀ c, c < nc → CB f (atC g c)) (hy : y < 2147483648) (σ : GS) (hk : GK nc σ) : XCall xM (d + 6) 145 [.ref 536, .int (nI g), .int (nI y)] (MGs H e hs hc σ) none (MGs H e hs hc (seS f n m s g nc y 6 (ysS f s g nc y σ))) := by
  have hK := mg_k (e := GE e σ) (hs := hs) (hc := hc) (bg := σ.2.2.2.2) h7
  have hS' := mg_s (e := GE e σ) (hs := hs) (hc := hc) (bg := σ.2.2.2.2) hS
  refine XCall.of (M := xm_X7_yearGoes) rfl (Nat.le_of_ble_eq_true rfl) ?_
  have go2 : ∀ (σ : GS) (sh : Int32), GK nc σ → XGo (d + 5) xm_X7_yearGoes (21, ygL g y sh none none, [], MGs H e hs hc σ) none (MGs H e hs hc (seS f n m s g nc y 6 σ)) := fun σ sh hk => by
    have := yg_l d h7 hS h0 hn h1 hm hg hnc hf hC hy (sh := sh) (e := e) (hs := hs) (hc := hc) 6 σ none hk (fun c _ => by omega)
    obtain ⟨o, l, b, t, bg⟩ := σ
    cases o with
    | none =>
      refine XGo.go 4 rfl ?_
      refine XGo.ifp rfl ?_
      refine XGo.go 2 rfl ?_
      exact this
    | some c =>
      have e2 : c = l := hk.2 c rfl
      have : l < nc := hk.1
      refine XGo.go 4 rfl ?_
      refine XGo.ifn (nI_nm1 (show c < 1000 by omega)) ?_
      refine XGo.go 3 rfl ?_
      assumption
  refine XGo.go 5 rfl ?_
  refine XGo.call _ rfl xm_X7_shiftOf rfl rfl [.ref 536, .int (nI g), .int (nI σ.2.1), .int (nI y)] [] rfl rfl (mg_r rfl rfl) (Nat.le_of_ble_eq_true rfl) (k_sh (d + 3) hK hS' hg hnc hf hC hy (by have := hk.1; omega)) ?_
  unfold ysS
  cases hsh : shS f s g y (nc - (σ.2.1 + 1)) (σ.2.1 + 1) with
  | none =>
    refine XGo.go 4 rfl ?_
    refine XGo.ifp rfl ?_
    exact go2 σ _ hk
  | some c =>
    have lc := sh_lt _ _ _ hsh
    refine XGo.go 4 rfl ?_
    refine XGo.ifn (nI_nm1 (show c < 1000 by omega)) ?_
    refine XGo.go 2 rfl ?_
    refine XGo.call _ rfl xm_X7_runsNext rfl rfl [.ref 536, .int (o2i (some c))] [] rfl rfl (mg_r rfl rfl) (Nat.le_of_ble_eq_true rfl) (k_rn (d + 4) (some c) (fun c' h' => by cases h'; omega) σ) ?_
    exact go2 _ _ (gk_rn hk fun c' h' => by cases h'; omega)
end MR
