theorem x_lay0 : GoodIn lw_tbl wsX00 := goodIn_r _ [326, 328, 330, 332, 334, 336, 338, 340, 342, 344, 346, 348] (by decide +kernel) (by decide +kernel)
theorem x_ins0 : Cond.instantiable RX0 12 ∈ xtw := List.mem_filter.mpr ⟨List.mem_of_getElem? (i := 301) (by decide +kernel), rfl⟩
theorem x_ini0 : Cond.initialized RX0 ∈ xtw := List.mem_filter.mpr ⟨List.mem_of_getElem? (i := 115) (by decide +kernel), rfl⟩
theorem x_lay1 : GoodIn lw_tbl wsX10 := goodIn_r _ [153, 155, 157] (by decide +kernel) (by decide +kernel)
theorem x_ins1 : Cond.instantiable RX1 3 ∈ xtw := List.mem_filter.mpr ⟨List.mem_of_getElem? (i := 141) (by decide +kernel), rfl⟩
theorem x_ini1 : Cond.initialized RX1 ∈ xtw := List.mem_filter.mpr ⟨List.mem_of_getElem? (i := 111) (by decide +kernel), rfl⟩
theorem x_lay2 : GoodIn lw_tbl wsX20 := goodIn_r _ [294, 296, 298] (by decide +kernel) (by decide +kernel)
theorem x_ins2 : Cond.instantiable RX2 3 ∈ xtw := List.mem_filter.mpr ⟨List.mem_of_getElem? (i := 286) (by decide +kernel), rfl⟩
theorem x_ini2 : Cond.initialized RX2 ∈ xtw := List.mem_filter.mpr ⟨List.mem_of_getElem? (i := 114) (by decide +kernel), rfl⟩
theorem x_lay3 : GoodIn lw_tbl wsX30 := goodIn_r _ [274, 276, 278, 280] (by decide +kernel) (by decide +kernel)
theorem x_ins3 : Cond.instantiable RX3 4 ∈ xtw := List.mem_filter.mpr ⟨List.mem_of_getElem? (i := 262) (by decide +kernel), rfl⟩
theorem x_ini3 : Cond.initialized RX3 ∈ xtw := List.mem_filter.mpr ⟨List.mem_of_getElem? (i := 113) (by decide +kernel), rfl⟩
theorem x_lay4 : GoodIn lw_tbl wsX40 := goodIn_r _ [246, 248, 250, 252, 254, 256, 258] (by decide +kernel) (by decide +kernel)
theorem x_ins4 : Cond.instantiable RX4 7 ∈ xtw := List.mem_filter.mpr ⟨List.mem_of_getElem? (i := 231) (by decide +kernel), rfl⟩
theorem x_ini4 : Cond.initialized RX4 ∈ xtw := List.mem_filter.mpr ⟨List.mem_of_getElem? (i := 112) (by decide +kernel), rfl⟩
theorem x_lay5 : GoodIn lw_tbl wsX50 := goodIn_r _ [197, 199, 201, 203, 205, 207, 209, 211, 213, 215, 217, 219, 221, 223, 225] (by decide +kernel) (by decide +kernel)
theorem x_ins5 : Cond.instantiable RX5 15 ∈ xtw := List.mem_filter.mpr ⟨List.mem_of_getElem? (i := 134) (by decide +kernel), rfl⟩
theorem x_ini5 : Cond.initialized RX5 ∈ xtw := List.mem_filter.mpr ⟨List.mem_of_getElem? (i := 110) (by decide +kernel), rfl⟩
theorem x_lay6 : GoodIn lw_tbl wsX60 := goodIn_r _ [360, 362, 364, 366, 368, 370, 372, 374, 376] (by decide +kernel) (by decide +kernel)
theorem x_ins6 : Cond.instantiable RX6 9 ∈ xtw := List.mem_filter.mpr ⟨List.mem_of_getElem? (i := 126) (by decide +kernel), rfl⟩
theorem x_ini6 : Cond.initialized RX6 ∈ xtw := List.mem_filter.mpr ⟨List.mem_of_getElem? (i := 109) (by decide +kernel), rfl⟩
theorem x_lay7 : GoodIn lw_tbl wsX70 := goodIn_r _ [889, 891, 893, 895, 897, 899, 901, 903, 905, 907, 909, 911, 913, 915, 917, 919, 921, 923, 925, 927, 929, 931, 933, 935, 937] (by decide +kernel) (by decide +kernel)
theorem x_ins7 : Cond.instantiable RX7 25 ∈ xtw := List.mem_filter.mpr ⟨List.mem_of_getElem? (i := 860) (by decide +kernel), rfl⟩
theorem x_ini7 : Cond.initialized RX7 ∈ xtw := List.mem_filter.mpr ⟨List.mem_of_getElem? (i := 116) (by decide +kernel), rfl⟩
theorem x_ac_int : Cond.arrayClass .int ∈ xtw := List.mem_filter.mpr ⟨List.mem_of_getElem? (i := 160) (by decide +kernel), rfl⟩
theorem x_ac_boolean : Cond.arrayClass .boolean ∈ xtw := List.mem_filter.mpr ⟨List.mem_of_getElem? (i := 940) (by decide +kernel), rfl⟩
theorem x_oi : Cond.instanceMethod objectInit ∈ xtw := List.mem_filter.mpr ⟨List.mem_of_getElem? (i := 131) (by decide +kernel), rfl⟩
theorem x_oc : Cond.code objectInit ⟨#[0xb1]⟩ 1 none ∈ xtw := List.mem_filter.mpr ⟨List.mem_of_getElem? (i := 132) (by decide +kernel), rfl⟩
theorem x_an : Cond.native arraycopyName ∈ xtw := List.mem_filter.mpr ⟨List.mem_of_getElem? (i := 474) (by decide +kernel), rfl⟩
theorem x_as : Cond.static arraycopyName ∈ xtw := List.mem_filter.mpr ⟨List.mem_of_getElem? (i := 473) (by decide +kernel), rfl⟩
theorem x_ai : Cond.initialized "java/lang/System" ∈ xtw := List.mem_filter.mpr ⟨List.mem_of_getElem? (i := 118) (by decide +kernel), rfl⟩
theorem x_mc : Cond.code Lib.Math.min.name Lib.Math.min.code 2 (some .int) ∈ xtw := List.mem_filter.mpr ⟨List.mem_of_getElem? (i := 471) (by decide +kernel), rfl⟩
theorem x_ms : Cond.static Lib.Math.min.name ∈ xtw := List.mem_filter.mpr ⟨List.mem_of_getElem? (i := 470) (by decide +kernel), rfl⟩
theorem x_mi : Cond.initialized "java/lang/Math" ∈ xtw := List.mem_filter.mpr ⟨List.mem_of_getElem? (i := 117) (by decide +kernel), rfl⟩
theorem x_good {ci : Nat} {T : u_T} {N : Nat} {C : String} (h : GoodIn lw_tbl (u_ws C T N)) (hg : (u_ws C T N).all goodWord = true) : ∀ w ∈ u_ws C T N, w ∈ xtw := fun w hw => List.mem_filter.mpr ⟨(h w hw).1, List.all_eq_true.mp hg w hw⟩
/-- what the tables say of the classes: their fields' types, their names, what they need to be made -/
theorem x_cls {ci : Nat} {q : vw_C} (hq : vwCl[ci]? = some q) : (∀ k, k < q.2.2 → parseFieldDescriptor (q.2.1 k).2.2.1 = some (xty ci k)) ∧ (∀ a, a < q.2.2 → ∀ b, b < q.2.2 → a ≠ b → (q.2.1 a).2.1 ≠ (q.2.1 b).2.1) ∧ q.2.2 = xnum ci ∧ (∀ w ∈ u_ws q.1 q.2.1 q.2.2, w ∈ xtw) ∧ Cond.instantiable q.1 q.2.2 ∈ xtw ∧ Cond.initialized q.1 ∈ xtw := by
  match ci, hq with
  | 0, hq => cases hq; exact ⟨tyX0_ok, nmX0, rfl, x_good (ci := 0) x_lay0 (by decide +kernel), x_ins0, x_ini0⟩
  | 1, hq => cases hq; exact ⟨tyX1_ok, nmX1, rfl, x_good (ci := 0) x_lay1 (by decide +kernel), x_ins1, x_ini1⟩
  | 2, hq => cases hq; exact ⟨tyX2_ok, nmX2, rfl, x_good (ci := 0) x_lay2 (by decide +kernel), x_ins2, x_ini2⟩
  | 3, hq => cases hq; exact ⟨tyX3_ok, nmX3, rfl, x_good (ci := 0) x_lay3 (by decide +kernel), x_ins3, x_ini3⟩
  | 4, hq => cases hq; exact ⟨tyX4_ok, nmX4, rfl, x_good (ci := 0) x_lay4 (by decide +kernel), x_ins4, x_ini4⟩
  | 5, hq => cases hq; exact ⟨tyX5_ok, nmX5, rfl, x_good (ci := 0) x_lay5 (by decide +kernel), x_ins5, x_ini5⟩
  | 6, hq => cases hq; exact ⟨tyX6_ok, nmX6, rfl, x_good (ci := 0) x_lay6 (by decide +kernel), x_ins6, x_ini6⟩
  | 7, hq => cases hq; exact ⟨tyX7_ok, nmX7, rfl, x_good (ci := 0) x_lay7 (by decide +kernel), x_ins7, x_ini7⟩
  | n + 8, hq => simp [vwCl] at hq
/-- a row's links are the tables' -/
def xfw (own : String) (idx ci k w : Nat) : Bool := match vwCl[ci]? with
  | some q => decide (k < q.2.2) && decide ((q.2.1 k).1 = q.1) && decide (lw_tbl[w]? = some (.fieldLink own idx q.1 (q.2.1 k).2.1 (q.2.1 k).2.2.1))
  | none => false
def xfn (own : String) (idx ci k w : Nat) : Bool := match vwCl[ci]? with
  | some q => decide (k < q.2.2) && decide ((q.2.1 k).1 = q.1) && decide (lw_tbl[w]? = some (.fieldLinkNest own idx q.1 (q.2.1 k).2.1 (q.2.1 k).2.2.1 RX6))
  | none => false
def xfin (ci k : Nat) : Bool := match vwCl[ci]? with
  | some q => (q.2.1 k).2.2.2
  | none => true
def xown (own : String) (ci : Nat) : Bool := match vwCl[ci]? with
  | some q => decide (q.1 = own)
  | none => false
def xrw (own : String) (ini : Bool) (r : XRow) : Bool := match r.2.1 with
  | .getfield idx => if r.2.2.2.1 = 98 then (if r.2.2.2.2.1 = 0 then decide (lw_tbl[r.2.2.2.2.2]? = some (.fieldLink own idx "java/lang/String" "value" "[B")) else decide (lw_tbl[r.2.2.2.2.2]? = some (.fieldLink own idx "java/lang/String" "coder" "B"))) else xfw own idx r.2.2.2.1 r.2.2.2.2.1 r.2.2.2.2.2 || xfn own idx r.2.2.2.1 r.2.2.2.2.1 r.2.2.2.2.2
  | .putfield idx => (xfw own idx r.2.2.2.1 r.2.2.2.2.1 r.2.2.2.2.2 && (!xfin r.2.2.2.1 r.2.2.2.2.1 || (ini && xown own r.2.2.2.1))) || (xfn own idx r.2.2.2.1 r.2.2.2.2.1 r.2.2.2.2.2 && !xfin r.2.2.2.1 r.2.2.2.2.1)
  | .goto off => decide ((r.1 : Int) + off = (r.2.2.2.1 : Int))
  | .if_icmp _ off => decide ((r.1 : Int) + off = (r.2.2.2.1 : Int))
  | .ifCond _ off => decide ((r.1 : Int) + off = (r.2.2.2.1 : Int))
  | .ifnull off => decide ((r.1 : Int) + off = (r.2.2.2.1 : Int))
  | .ifnonnull off => decide ((r.1 : Int) + off = (r.2.2.2.1 : Int))
  | .ldc2_w idx => decide (lw_tbl[r.2.2.2.2.2]? = some (.constantLong own idx (Int64.ofNat r.2.2.2.1)))
  | .getstatic idx => if r.2.2.2.1 = 0 then decide (lw_tbl[r.2.2.2.2.2]? = some (.fieldLink own idx RX6 "ABOVE" "[I")) else if r.2.2.2.1 = 1 then decide (lw_tbl[r.2.2.2.2.2]? = some (.fieldLink own idx "java/lang/String" "COMPACT_STRINGS" "Z")) else decide (lw_tbl[r.2.2.2.2.2]? = some (.fieldLink own idx "jdk/internal/util/Preconditions" "SIOOBE_FORMATTER" "Ljava/util/function/BiFunction;"))
  | .ldc idx => decide (own = (xsr (r.2.2.2.1 - 2)).1) && decide (idx = (xsr (r.2.2.2.1 - 2)).2.1)
  | .invokespecial idx => if r.2.2.2.1 = 999 then decide (lw_tbl[r.2.2.2.2.2]? = some (.methodLink own idx objectInit)) else true
  | .ldc_w idx => decide (lw_tbl[r.2.2.2.2.2]? = some (.constant own idx (Int32.ofNat r.2.2.2.1)))
  | .invokestatic idx => if r.2.2.2.1 = 998 then decide (lw_tbl[r.2.2.2.2.2]? = some (.methodLink own idx arraycopyName)) else if r.2.2.2.1 = 996 then decide (lw_tbl[r.2.2.2.2.2]? = some (.methodLink own idx Lib.Math.min.name)) else true
  | .new idx => match vwCl[r.2.2.2.1]? with
    | some q => decide (lw_tbl[r.2.2.2.2.2]? = some (.classLink own idx q.1))
    | none => false
  | .newarray t => (decide (t = .int) && decide (r.2.2.2.2.1 = 0)) || (decide (t = .boolean) && decide (r.2.2.2.2.1 = 1))
  | .anewarray idx => (decide (r.2.2.2.2.1 = 2) && decide (lw_tbl[r.2.2.2.2.2]? = some (.classLink own idx RX0))) || (decide (r.2.2.2.2.1 = 3) && decide (lw_tbl[r.2.2.2.2.2]? = some (.classLink own idx RX1)))
  | .lookupswitch _ ps => (ps.toList.zip (ps.toList.drop 1)).all (fun (a, next) => a.1 < next.1)
  | _ => true
theorem xw_in {w : Cond} {i : Nat} (h : lw_tbl[i]? = some w) (hg : goodWord w = true) : w ∈ xtw := List.mem_filter.mpr ⟨List.mem_of_getElem? h, hg⟩
theorem xn_in {w : Cond} {i : Nat} (h : lw_tbl[i]? = some w) (hg : xisN w = true) : w ∈ xnw := List.mem_filter.mpr ⟨List.mem_of_getElem? h, hg⟩
theorem xfw_spec {own : String} {idx ci k w : Nat} (h : xfw own idx ci k w = true) : ∃ q : vw_C, vwCl[ci]? = some q ∧ k < q.2.2 ∧ (q.2.1 k).1 = q.1 ∧ Cond.fieldLink own idx q.1 (q.2.1 k).2.1 (q.2.1 k).2.2.1 ∈ xtw := by
  unfold xfw at h
  split at h
  · rename_i q hq
    simp only [Bool.and_eq_true, decide_eq_true_eq] at h
    exact ⟨q, hq, h.1.1, h.1.2, xw_in h.2 rfl⟩
  · cases h
theorem xfn_spec {own : String} {idx ci k w : Nat} (h : xfn own idx ci k w = true) : ∃ q : vw_C, vwCl[ci]? = some q ∧ k < q.2.2 ∧ (q.2.1 k).1 = q.1 ∧ Cond.fieldLinkNest own idx q.1 (q.2.1 k).2.1 (q.2.1 k).2.2.1 RX6 ∈ xnw := by
  unfold xfn at h
  split at h
  · rename_i q hq
    simp only [Bool.and_eq_true, decide_eq_true_eq] at h
    exact ⟨q, hq, h.1.1, h.1.2, xn_in h.2 rfl⟩
  · cases h
