/-! ===== the abstract machine: values are tagged whole numbers, the heap is a table of numbers ===== -/
section XA
abbrev XV : Type := Nat × Int
abbrev XH : Type := (Int → Nat) × (Int → Int) × (Int → Int → Int) × Int × Int
abbrev xI (x : Int) : XV := (0, x)
abbrev xL (x : Int) : XV := (1, x)
abbrev xR (x : Int) : XV := (2, x)
abbrev xD (x : Int) : XV := (3, x)
abbrev xZ : XV := (9, 0)
abbrev xN : XV := (8, 0)
def xtg (h : XH) : Int → Nat := h.1
def xln (h : XH) : Int → Int := h.2.1
def xpl (h : XH) : Int → Int → Int := h.2.2.1
def xnx (h : XH) : Int := h.2.2.2.1
def xsl (h : XH) : Int := h.2.2.2.2
def xst (h : XH) (a k v : Int) : XH := (h.1, h.2.1, fun b j => if b = a ∧ j = k then v else h.2.2.1 b j, h.2.2.2)
def xmk (h : XH) (t : Nat) (n : Int) (c : Int → Int) : XH := (fun b => if b = h.2.2.2.1 then t else h.1 b, fun b => if b = h.2.2.2.1 then n else h.2.1 b, fun b => if b = h.2.2.2.1 then c else h.2.2.1 b, h.2.2.2.1 + 1, h.2.2.2.2 + n)
theorem xtg_st (h : XH) (a k v b : Int) : xtg (xst h a k v) b = xtg h b := rfl
theorem xln_st (h : XH) (a k v b : Int) : xln (xst h a k v) b = xln h b := rfl
theorem xnx_st (h : XH) (a k v : Int) : xnx (xst h a k v) = xnx h := rfl
theorem xsl_st (h : XH) (a k v : Int) : xsl (xst h a k v) = xsl h := rfl
theorem xpl_st (h : XH) (a k v b j : Int) : xpl (xst h a k v) b j = if b = a ∧ j = k then v else xpl h b j := rfl
theorem xtg_mk (h : XH) (t : Nat) (n : Int) (c : Int → Int) (b : Int) : xtg (xmk h t n c) b = if b = xnx h then t else xtg h b := rfl
theorem xln_mk (h : XH) (t : Nat) (n : Int) (c : Int → Int) (b : Int) : xln (xmk h t n c) b = if b = xnx h then n else xln h b := rfl
theorem xpl_mk (h : XH) (t : Nat) (n : Int) (c : Int → Int) (b j : Int) : xpl (xmk h t n c) b j = if b = xnx h then c j else xpl h b j := by
  show (if b = h.2.2.2.1 then c else h.2.2.1 b) j = _
  unfold xnx xpl
  split <;> rfl
theorem xnx_mk (h : XH) (t : Nat) (n : Int) (c : Int → Int) : xnx (xmk h t n c) = xnx h + 1 := rfl
theorem xsl_mk (h : XH) (t : Nat) (n : Int) (c : Int → Int) : xsl (xmk h t n c) = xsl h + n := rfl
/-- ranges -/
abbrev xiR (a : Int) : Prop := -2147483648 ≤ a ∧ a ≤ 2147483647
abbrev xlR (a : Int) : Prop := -9223372036854775808 ≤ a ∧ a ≤ 9223372036854775807
def xok (v : XV) : Prop := match v.1 with
  | 0 => xiR v.2
  | 1 => xlR v.2
  | 2 => True
  | 3 => 0 ≤ v.2 ∧ v.2 < 18446744073709551616
  | 4 => 0 ≤ v.2 ∧ v.2 ≤ 1
  | 5 => -128 ≤ v.2 ∧ v.2 ≤ 127
  | 6 => 0 ≤ v.2 ∧ v.2 ≤ 65535
  | _ => False
/-- the ground: the launch, the law's start, classes' numbers, slots, the array classes, where known constants lie -/
abbrev XG : Type := Launch × State × (Nat → ClassId) × (Nat → Nat → Nat) × (Nat → ClassId) × (Nat → Nat)
abbrev gl (G : XG) : Launch := G.1
abbrev gs (G : XG) : State := G.2.1
abbrev gC (G : XG) : Nat → ClassId := G.2.2.1
abbrev gI (G : XG) : Nat → Nat → Nat := G.2.2.2.1
abbrev gA (G : XG) : Nat → ClassId := G.2.2.2.2.1
abbrev gd (G : XG) : Nat → Nat := G.2.2.2.2.2
abbrev gB (G : XG) : Nat := (gs G).heap.size
def xadr (G : XG) (r : Int) : Value := if 0 ≤ r then .ref (gB G + r.toNat) else if r = -1 then .null else .ref (gd G (-2 - r).toNat)
def xcv (G : XG) (v : XV) : Value := match v.1 with
  | 0 => .int (Int32.ofInt v.2)
  | 1 => .long (Int64.ofInt v.2)
  | 2 => xadr G v.2
  | 3 => .double (UInt64.ofNat v.2.toNat)
  | 4 => .int (Int32.ofInt v.2)
  | 5 => .int (Int32.ofInt v.2)
  | 6 => .int (Int32.ofInt v.2)
  | _ => .null
theorem xadr_cases (G : XG) (r : Int) : (∃ q, r ≠ -1 ∧ xadr G r = .ref q) ∨ (r = -1 ∧ xadr G r = .null) := by
  unfold xadr
  by_cases h : 0 ≤ r
  · exact Or.inl ⟨_, by omega, by rw [if_pos h]⟩
  · by_cases h2 : r = -1
    · exact Or.inr ⟨h2, by rw [if_neg h, if_pos h2]⟩
    · exact Or.inl ⟨_, h2, by rw [if_neg h, if_neg h2]⟩
def xcat2 (v : XV) : Bool := match v.1 with
  | 1 => true
  | 3 => true
  | _ => false
theorem xcat_eq (G : XG) {v : XV} (h : xcat2 v = true) : (xcv G v).category = 2 := by
  obtain ⟨t, x⟩ := v
  match t, h with
  | 1, _ => rfl
  | 3, _ => rfl
theorem xcat_ne (G : XG) {v : XV} (h : xcat2 v = false) : (xcv G v).category = 1 := by
  obtain ⟨t, x⟩ := v
  match t, h with
  | 0, _ => rfl
  | 2, _ => show (xadr G x).category = 1; rcases xadr_cases G x with ⟨q, -, e⟩ | ⟨-, e⟩ <;> rw [e] <;> rfl
  | 4, _ => rfl
  | 5, _ => rfl
  | 6, _ => rfl
  | n + 7, _ => rfl
theorem xcat_iff (G : XG) (v : XV) : (xcv G v).category = 2 ↔ xcat2 v = true := by
  cases h : xcat2 v
  · rw [xcat_ne G h]; simp
  · rw [xcat_eq G h]; simp
/-! numbers -/
theorem xi_to {a : Int} (h : xiR a) : (Int32.ofInt a).toInt = a := Int32.toInt_ofInt_of_le (by omega) (by omega)
theorem xl_to {a : Int} (h : xlR a) : (Int64.ofInt a).toInt = a := Int64.toInt_ofInt_of_le (by omega) (by omega)
theorem xi_lt {a b : Int} (ha : xiR a) (hb : xiR b) : Int32.ofInt a < Int32.ofInt b ↔ a < b := by rw [Int32.lt_iff_toInt_lt, xi_to ha, xi_to hb]
theorem xi_le {a b : Int} (ha : xiR a) (hb : xiR b) : Int32.ofInt a ≤ Int32.ofInt b ↔ a ≤ b := by rw [Int32.le_iff_toInt_le, xi_to ha, xi_to hb]
theorem xi_eq {a b : Int} (ha : xiR a) (hb : xiR b) : Int32.ofInt a = Int32.ofInt b ↔ a = b := by rw [← Int32.toInt_inj, xi_to ha, xi_to hb]
theorem xl_lt {a b : Int} (ha : xlR a) (hb : xlR b) : Int64.ofInt a < Int64.ofInt b ↔ a < b := by rw [Int64.lt_iff_toInt_lt, xl_to ha, xl_to hb]
theorem xl_eq {a b : Int} (ha : xlR a) (hb : xlR b) : Int64.ofInt a = Int64.ofInt b ↔ a = b := by rw [← Int64.toInt_inj, xl_to ha, xl_to hb]
theorem xi_z : xiR 0 := by decide
theorem xi_toR (x : Int32) : xiR x.toInt := ⟨by have := x.le_toInt; omega, by have := x.toInt_lt; omega⟩
theorem xl_toR (x : Int64) : xlR x.toInt := ⟨by have := x.le_toInt; omega, by have := x.toInt_lt; omega⟩
def xw64 (x : Int) : Int := (Int64.ofInt x).toInt
def xw32 (x : Int) : Int := (Int32.ofInt x).toInt
theorem xw64_id {x : Int} (h : xlR x) : xw64 x = x := xl_to h
theorem xw32_id {x : Int} (h : xiR x) : xw32 x = x := xi_to h
def xand (a b : Int) : Int := (Int32.ofInt a &&& Int32.ofInt b).toInt
def xior (a b : Int) : Int := (Int32.ofInt a ||| Int32.ofInt b).toInt
def xshl (a b : Int) : Int := (Int32.ofInt a <<< (Int32.ofInt b &&& 31)).toInt
def xshr (a b : Int) : Int := (Int32.ofInt a >>> (Int32.ofInt b &&& 31)).toInt
def xushr (a b : Int) : Int := ((Int32.ofInt a).toUInt32 >>> ((Int32.ofInt b).toUInt32 &&& Int32.toUInt32 31)).toInt32.toInt
def xi2c (a : Int) : Int := ((Int32.ofInt a).toUInt32 % 65536).toInt32.toInt
def xi2b (a : Int) : Int := (Int32.ofInt a).toInt8.toInt32.toInt
def xi2d (a : Int) : Int := ((FP.i2d (Int32.ofInt a)).toNat : Int)
def xl2d (a : Int) : Int := ((FP.l2d (Int64.ofInt a)).toNat : Int)
def xddiv (a b : Int) : Int := ((FP.ddiv (UInt64.ofNat a.toNat) (UInt64.ofNat b.toNat)).toNat : Int)
def xdcmp (op : CmpOp) (a b : Int) : Int := (Op.cmpValue (FP.dcmp (UInt64.ofNat a.toNat) (UInt64.ofNat b.toNat)) op).toInt
def xcmp (a b : Int) : Int := if b < a then 1 else if a = b then 0 else -1
theorem xd_to (x : UInt64) : UInt64.ofNat ((x.toNat : Int)).toNat = x := by rw [Int.toNat_natCast]; exact UInt64.ofNat_toNat
theorem xd_toR (x : UInt64) : 0 ≤ (x.toNat : Int) ∧ (x.toNat : Int) < 18446744073709551616 := ⟨by omega, by have := x.toNat_lt; omega⟩
theorem xi_div {a b : Int} (ha : xiR a) (hb : xiR b) (h0 : 0 < b) : Int32.ofInt a / Int32.ofInt b = Int32.ofInt (a.tdiv b) := (Int32.ofInt_tdiv (by have h := ha.1; exact h) (by have h := ha.2; exact h) (by have h := hb.1; exact h) (by have h := hb.2; exact h)).symm
theorem xl_div {a b : Int} (ha : xlR a) (hb : xlR b) (h0 : 0 < b) : Int64.ofInt a / Int64.ofInt b = Int64.ofInt (a.tdiv b) := (Int64.ofInt_tdiv (by have h := ha.1; exact h) (by have h := ha.2; exact h) (by have h := hb.1; exact h) (by have h := hb.2; exact h)).symm
theorem xi_rem {a b : Int} (ha : xiR a) (hb : xiR b) (h0 : 0 < b) : Int32.ofInt a - Int32.ofInt a / Int32.ofInt b * Int32.ofInt b = Int32.ofInt (a.tmod b) := by
  rw [xi_div ha hb h0, ← Int32.ofInt_mul, ← Int32.ofInt_sub]
  congr 1
  have := Int.tmod_add_mul_tdiv a b
  rw [Int.mul_comm] at this
  omega
theorem xl_rem {a b : Int} (ha : xlR a) (hb : xlR b) (h0 : 0 < b) : Int64.ofInt a - Int64.ofInt a / Int64.ofInt b * Int64.ofInt b = Int64.ofInt (a.tmod b) := by
  rw [xl_div ha hb h0, ← Int64.ofInt_mul, ← Int64.ofInt_sub]
  congr 1
  have := Int.tmod_add_mul_tdiv a b
  rw [Int.mul_comm] at this
  omega
theorem xi_divR {a b : Int} (ha : xiR a) (h0 : 0 < b) : xiR (a.tdiv b) := by
  have h := Int.natAbs_tdiv_le_natAbs a b
  rcases Int.lt_or_le a 0 with q | q
  · have h1 : 0 ≤ (-a).tdiv b := Int.tdiv_nonneg (by omega) (by omega)
    rw [Int.neg_tdiv] at h1
    exact ⟨by omega, by omega⟩
  · have : 0 ≤ a.tdiv b := Int.tdiv_nonneg q (by omega)
    exact ⟨by omega, by omega⟩
theorem xl_divR {a b : Int} (ha : xlR a) (h0 : 0 < b) : xlR (a.tdiv b) := by
  have h := Int.natAbs_tdiv_le_natAbs a b
  rcases Int.lt_or_le a 0 with q | q
  · have h1 : 0 ≤ (-a).tdiv b := Int.tdiv_nonneg (by omega) (by omega)
    rw [Int.neg_tdiv] at h1
    exact ⟨by omega, by omega⟩
  · have : 0 ≤ a.tdiv b := Int.tdiv_nonneg q (by omega)
    exact ⟨by omega, by omega⟩
theorem xi_remR {a b : Int} (ha : xiR a) (hb : xiR b) (h0 : 0 < b) : xiR (a.tmod b) := by
  have h1 := Int.tmod_lt_of_pos a h0
  have h2 := Int.lt_tmod_of_pos a h0
  exact ⟨by omega, by omega⟩
theorem xl_remR {a b : Int} (ha : xlR a) (hb : xlR b) (h0 : 0 < b) : xlR (a.tmod b) := by
  have h1 := Int.tmod_lt_of_pos a h0
  have h2 := Int.lt_tmod_of_pos a h0
  exact ⟨by omega, by omega⟩
/-! locals: a list by place; a dead place is (9, 0) -/
def xlvl (G : XG) : Nat → List XV → List (Nat × Value)
  | _, [] => []
  | k, v :: L => if v.1 < 7 then (k, xcv G v) :: xlvl G (k + 1) L else xlvl G (k + 1) L
theorem xlvl_mem (G : XG) : ∀ (L : List XV) (k : Nat) (q : Nat × Value), q ∈ xlvl G k L ↔ ∃ (i : Nat) (v : XV), L[i]? = some v ∧ v.1 < 7 ∧ q = (k + i, xcv G v)
  | [], k, q => by simp [xlvl]
  | v :: L, k, q => by
    have ih := xlvl_mem G L (k + 1) q
    constructor
    · intro h
      unfold xlvl at h
      split at h
      · rcases List.mem_cons.mp h with h | h
        · exact ⟨0, v, rfl, by assumption, by rw [h]; rfl⟩
        · obtain ⟨i, w, h1, h2, h3⟩ := ih.mp h
          exact ⟨i + 1, w, by simpa using h1, h2, by rw [h3]; congr 1; omega⟩
      · obtain ⟨i, w, h1, h2, h3⟩ := ih.mp h
        exact ⟨i + 1, w, by simpa using h1, h2, by rw [h3]; congr 1; omega⟩
    · rintro ⟨i, w, h1, h2, h3⟩
      unfold xlvl
      cases i with
      | zero =>
        simp only [List.getElem?_cons_zero, Option.some.injEq] at h1
        subst h1
        rw [if_pos h2]
        exact List.mem_cons.mpr (Or.inl h3)
      | succ i =>
        rw [List.getElem?_cons_succ] at h1
        have h4 : q ∈ xlvl G (k + 1) L := ih.mpr ⟨i, w, h1, h2, by rw [h3]; congr 1; omega⟩
        split
        · exact List.mem_cons_of_mem _ h4
        · exact h4
def xLR (G : XG) (nL : Nat) (L : List XV) (ls : Array Slot) : Prop := lv_has ls nL (xlvl G 0 L) ∧ ∀ v ∈ L, v.1 < 7 → xok v
theorem xLR_get {G : XG} {nL : Nat} {L : List XV} {ls : Array Slot} (h : xLR G nL L ls) {i : Nat} {v : XV} (hi : L[i]? = some v) (hv : v.1 < 7) : ls[i]? = some (.val (xcv G v)) ∧ xok v :=
  ⟨h.1.2.2 (i, xcv G v) ((xlvl_mem G L 0 _).mpr ⟨i, v, hi, hv, by rw [Nat.zero_add]⟩), h.2 v (List.mem_of_getElem? hi) hv⟩
def xfix : Nat → List XV → List XV
  | 0, L => L
  | i + 1, L => match L[i]? with
    | some w => if xcat2 w then L.set i (9, 0) else L
    | none => L
def xset (i : Nat) (v : XV) (L : List XV) : List XV := xfix i (if xcat2 v then (L.set i v).set (i + 1) (9, 0) else L.set i v)
theorem xset1 {i : Nat} {v : XV} {L : List XV} {j : Nat} {w : XV} (h : (if xcat2 v then (L.set i v).set (i + 1) (9, 0) else L.set i v)[j]? = some w) (hw : w.1 < 7) : (j = i ∧ w = v) ∨ (j ≠ i ∧ L[j]? = some w ∧ (xcat2 v = true → j ≠ i + 1)) := by
  by_cases hj : j = i
  · subst hj
    left
    split at h
    · rw [List.getElem?_set_ne (by omega)] at h
      rw [List.getElem?_set] at h
      simp at h
      exact ⟨rfl, h.2.symm⟩
    · rw [List.getElem?_set] at h
      simp at h
      exact ⟨rfl, h.2.symm⟩
  · right
    split at h
    · by_cases hj2 : j = i + 1
      · subst hj2
        rw [List.getElem?_set] at h
        simp at h
        rw [← h.2] at hw
        exact absurd hw (by decide)
      · rw [List.getElem?_set_ne (by omega), List.getElem?_set_ne (by omega)] at h
        exact ⟨hj, h, fun _ => hj2⟩
    · rename_i hc
      rw [List.getElem?_set_ne (by omega)] at h
      exact ⟨hj, h, fun q => absurd q hc⟩
theorem xfix1 {i : Nat} {L : List XV} {j : Nat} {w : XV} (h : (xfix i L)[j]? = some w) (hw : w.1 < 7) : L[j]? = some w ∧ ¬ (j + 1 = i ∧ xcat2 w = true) := by
  cases i with
  | zero => exact ⟨h, fun q => by omega⟩
  | succ i =>
    simp only [xfix] at h
    cases he : L[i]? with
    | none =>
      rw [he] at h
      refine ⟨h, fun q => ?_⟩
      have : j = i := by omega
      subst this
      dsimp only at h
      rw [he] at h
      cases h
    | some u =>
      rw [he] at h
      dsimp only at h
      split at h
      · by_cases hj : j = i
        · subst hj
          rw [List.getElem?_set] at h
          simp at h
          rw [← h.2] at hw
          exact absurd hw (by decide)
        · rw [List.getElem?_set_ne (by omega)] at h
          exact ⟨h, fun q => by omega⟩
      · rename_i hc
        refine ⟨h, fun q => ?_⟩
        have : j = i := by omega
        subst this
        rw [he] at h
        cases h
        exact hc q.2
theorem xset_get {i : Nat} {v : XV} {L : List XV} {j : Nat} {w : XV} (h : (xset i v L)[j]? = some w) (hw : w.1 < 7) : (j = i ∧ w = v) ∨ (j ≠ i ∧ L[j]? = some w ∧ (xcat2 v = true → j ≠ i + 1) ∧ ¬ (j + 1 = i ∧ xcat2 w = true)) := by
  obtain ⟨h1, h2⟩ := xfix1 h hw
  rcases xset1 h1 hw with h3 | ⟨h3, h4, h5⟩
  · exact Or.inl h3
  · exact Or.inr ⟨h3, h4, h5, h2⟩
theorem xLR_set {G : XG} {nL i : Nat} {v : XV} {L : List XV} {ls ls' : Array Slot} (h : xLR G nL L ls) (hv : xok v) (l2 : List (Nat × Value)) (h2 : lv_has ls' nL ((i, xcv G v) :: l2))
    (h3 : ∀ (j : Nat) (w : XV), L[j]? = some w → w.1 < 7 → j ≠ i → (xcat2 v = true → j ≠ i + 1) → ¬ (j + 1 = i ∧ xcat2 w = true) → (j, xcv G w) ∈ l2) : xLR G nL (xset i v L) ls' := by
  refine ⟨⟨h2.1, h2.2.1, fun q hq => ?_⟩, fun w hw hw7 => ?_⟩
  · obtain ⟨j, w, h4, h5, h6⟩ := (xlvl_mem G _ 0 q).mp hq
    rw [Nat.zero_add] at h6
    subst h6
    rcases xset_get h4 h5 with ⟨h7, h8⟩ | ⟨h7, h8, h9, h10⟩
    · subst h7; subst h8
      exact h2.2.2 _ List.mem_cons_self
    · exact h2.2.2 _ (List.mem_cons_of_mem _ (h3 j w h8 h5 h7 h9 h10))
  · obtain ⟨j, hj⟩ := List.getElem?_of_mem hw
    rcases xset_get hj hw7 with ⟨-, h8⟩ | ⟨-, h8, -⟩
    · rw [h8]; exact hv
    · exact h.2 w (List.mem_of_getElem? h8) hw7
theorem xLR_set1 {G : XG} {nL i : Nat} {v : XV} {L : List XV} {ls ls' : Array Slot} (h : xLR G nL L ls) (hv : xok v) (hc : xcat2 v = false)
    (h2 : lv_has ls' nL ((i, xcv G v) :: (xlvl G 0 L).filter (fun q => !(q.1 == i) && !(q.1 + 1 == i && q.2.category == 2)))) : xLR G nL (xset i v L) ls' := by
  refine xLR_set h hv _ h2 fun j w h4 h5 h6 _ h8 => List.mem_filter.mpr ⟨(xlvl_mem G L 0 _).mpr ⟨j, w, h4, h5, by rw [Nat.zero_add]⟩, ?_⟩
  have e : ((xcv G w).category == 2) = xcat2 w := by
    cases hcw : xcat2 w
    · rw [xcat_ne G hcw]; rfl
    · rw [xcat_eq G hcw]; rfl
  show (!(j == i) && !(j + 1 == i && (xcv G w).category == 2)) = true
  rw [e]
  simp only [Bool.and_eq_true, Bool.not_eq_true', beq_eq_false_iff_ne, Bool.and_eq_false_imp, beq_iff_eq]
  refine ⟨h6, fun q => ?_⟩
  cases hcw : xcat2 w
  · rfl
  · exact absurd ⟨q, hcw⟩ h8
theorem xLR_set2 {G : XG} {nL i : Nat} {v : XV} {L : List XV} {ls ls' : Array Slot} (h : xLR G nL L ls) (hv : xok v) (hc : xcat2 v = true)
    (h2 : lv_has ls' nL ((i, xcv G v) :: (xlvl G 0 L).filter (fun q => !(q.1 == i) && (!(q.1 == i + 1) && !(q.1 + 1 == i && q.2.category == 2))))) : xLR G nL (xset i v L) ls' := by
  refine xLR_set h hv _ h2 fun j w h4 h5 h6 h7 h8 => List.mem_filter.mpr ⟨(xlvl_mem G L 0 _).mpr ⟨j, w, h4, h5, by rw [Nat.zero_add]⟩, ?_⟩
  have e : ((xcv G w).category == 2) = xcat2 w := by
    cases hcw : xcat2 w
    · rw [xcat_ne G hcw]; rfl
    · rw [xcat_eq G hcw]; rfl
  show (!(j == i) && (!(j == i + 1) && !(j + 1 == i && (xcv G w).category == 2))) = true
  rw [e]
  simp only [Bool.and_eq_true, Bool.not_eq_true', beq_eq_false_iff_ne, Bool.and_eq_false_imp, beq_iff_eq]
  refine ⟨h6, h7 hc, fun q => ?_⟩
  cases hcw : xcat2 w
  · rfl
  · exact absurd ⟨q, hcw⟩ h8
/-- fewer places known -/
def xsub : List XV → List XV → Bool
  | [], [] => true
  | a :: A, b :: B => (decide (7 ≤ a.1) || decide (a = b)) && xsub A B
  | _, _ => false
end XA
