/-! ===== prpic ===== -/
section
/-! the model reads a question: the picture, the reader beside it -/
def neW (t : PT) : Int := if t.1 5 = 1 then 2 else (bgL 0 t.2).length
/-- a star's first word is cut off cleanly -/
def StOK (v n : Int) : Prop := n ≤ 12 → ∃ s : Int, 0 ≤ s ∧ v = s * p37 (12 - n)
def RoR (h : XH) (q i : Int) (t : PT) : Prop :=
  (xpl h (q + 2) i = t.1 1 ∧ xpl h (q + 3) i = t.1 6 ∧ xpl h (q + 4) i = t.1 2 ∧ xpl h (q + 5) i = (if t.1 5 = 3 then 2 else if t.1 5 = 1 then 1 else 0) ∧ xpl h (q + 9) i = t.1 7) ∧
  (t.1 5 ≠ 1 → xpl h (q + 7) i = (bgL 0 t.2).length ∧ xpl h (q + 8) i = t.2.length ∧ ∀ (j : Nat) (v : Int × Int), (bgL 0 t.2)[j]? = some v → xpl h (q + 10) (xpl h (q + 6) i + j) = v.1 ∧ xpl h (q + 11) (xpl h (q + 6) i + j) = v.2) ∧
  (t.1 5 = 1 → xpl h (q + 7) i = 0 ∧ xpl h (q + 8) i = 0 ∧ xpl h (q + 10) (xpl h (q + 6) i) = t.1 8 ∧ xpl h (q + 10) (xpl h (q + 6) i + 1) = stE (t.1 8) (t.1 9) ∧ StOK (t.1 8) (t.1 9)) ∧
  0 ≤ xpl h (q + 6) i ∧ xpl h (q + 6) i + neW t ≤ xpl h q 10 ∧
  ((t.1 5 = 0 ∧ bigF t.2 ≤ 1) ∨ t.1 5 = 1 ∨ (t.1 5 = 2 ∧ 2 ≤ bigF t.2) ∨ (t.1 5 = 3 ∧ t.2 = []))
theorem RoR.keep {h h' : XH} {q i w : Int} {t : PT} (R : RoR h q i t) (r : ∀ c, q + 1 ≤ c → c ≤ q + 9 → xpl h' c i = xpl h c i) (o : ∀ c k, c = q + 10 ∨ c = q + 11 → k < w → xpl h' c k = xpl h c k) (w0 : xpl h q 10 ≤ w) (w1 : w ≤ xpl h' q 10) : RoR h' q i t := by
  obtain ⟨⟨a1, a2, a3, a4, a5⟩, b, c, f0, f1, kd⟩ := R
  have e6 : xpl h' (q + 6) i = xpl h (q + 6) i := r _ (by omega) (by omega)
  have nn : t.1 5 ≠ 1 → neW t = (bgL 0 t.2).length := fun z => by unfold neW; rw [if_neg z]
  have n1 : t.1 5 = 1 → neW t = 2 := fun z => by unfold neW; rw [if_pos z]
  refine ⟨⟨(r _ (by omega) (by omega)).trans a1, (r _ (by omega) (by omega)).trans a2, (r _ (by omega) (by omega)).trans a3, (r _ (by omega) (by omega)).trans a4, (r _ (by omega) (by omega)).trans a5⟩, fun z => ?_, fun z => ?_, by rw [e6]; exact f0, by rw [e6]; omega, kd⟩
  · obtain ⟨b1, b2, b3⟩ := b z
    have nn := nn z
    refine ⟨(r _ (by omega) (by omega)).trans b1, (r _ (by omega) (by omega)).trans b2, fun j v hv => ?_⟩
    have hl := (List.getElem?_eq_some_iff.mp hv).1
    rw [e6, o _ _ (Or.inl rfl) (by omega), o _ _ (Or.inr rfl) (by omega)]
    exact b3 j v hv
  · obtain ⟨c1, c2, c3, c4⟩ := c z
    have n1 := n1 z
    refine ⟨(r _ (by omega) (by omega)).trans c1, (r _ (by omega) (by omega)).trans c2, ?_, ?_⟩
    · rw [e6, o _ _ (Or.inl rfl) (by omega)]; exact c3
    · rw [e6, o _ _ (Or.inl rfl) (by omega)]; exact c4
def InR (h : XH) (q : Int) (D : DR) : Prop := ∀ (qi : Nat) (ns : List Nat) (m : Nat), D.2[qi]? = some ns → m ∈ ns → m < D.1.length ∧ ((qi = 0 ∧ xpl h (q + 1) m = -1) ∨ ∃ (o : Nat) (to : PT), D.1[o]? = some to ∧ to.1 5 = 3 ∧ to.1 10 = qi ∧ o < m ∧ xpl h (q + 1) m = o)
def ZeR (h : XH) (q n : Int) : Prop := ∀ c k, (c = q + 2 ∨ c = q + 5 ∨ c = q + 7 ∨ c = q + 8 ∨ c = q + 9) → n ≤ k → k ≤ 40 → xpl h c k = 0
/-- the draft in the rows of the question q -/
def PIC (h : XH) (q : Int) (D : DR) (n : Int) : Prop := xpl h q 0 = n ∧ (∀ (i : Nat) (t : PT), D.1[i]? = some t → RoR h q i t) ∧ InR h q D ∧ ZeR h q n
/-- a part that is begun -/
def PeR (h : XH) (q p sg f ins fr : Int) : Prop := (xpl h (q + 1) p = ins ∧ xpl h (q + 2) p = sg ∧ xpl h (q + 3) p = 1 ∧ xpl h (q + 4) p = f ∧ xpl h (q + 5) p = 0) ∧ xpl h (q + 6) p = fr ∧ xpl h (q + 7) p = 0 ∧ xpl h (q + 8) p = 0 ∧ xpl h (q + 9) p = 0
/-- a question's number of brackets, from the reader's -/
def inoV (r : RS) : Int := match r.2.2.1.getLast? with
  | none => -1
  | some m => m
def fldV (r : RS) : Int := if (bcF r).1.2.2 = 2 then (arF r.2.1 r.2.2.1).1 else (bcF r).1.2.2
def RD (bs : List Int) (t : Nat) (r : RS) : Int × RS := rdF bs (40 - t) (tA bs t) r
theorem RD_go {bs : List Int} {t : Nat} {r r' : RS} (t4 : t < 40) (n0 : tT bs t ≠ 0) (k : tkF bs (tP bs t) r = some r') : RD bs t r = RD bs (t + 1) r' := by
  unfold RD
  rw [show 40 - t = (40 - (t + 1)) + 1 by omega]
  show (match tkF bs (sb bs (tA bs t)) r with | none => (sb bs (tA bs t), r) | some r' => if ntT bs (sb bs (tA bs t)) = 0 then (-1, r') else rdF bs (40 - (t + 1)) (ntA bs (sb bs (tA bs t))) r') = _
  have k : tkF bs (sb bs (tA bs t)) r = some r' := k
  have n0 : ¬ ntT bs (sb bs (tA bs t)) = 0 := n0
  rw [k]
  show (if ntT bs (sb bs (tA bs t)) = 0 then ((-1 : Int), r') else rdF bs (40 - (t + 1)) (ntA bs (sb bs (tA bs t))) r') = _
  rw [if_neg n0]; rfl
theorem RD_no {bs : List Int} {t : Nat} {r : RS} (k : tkF bs (tP bs t) r = none) : (RD bs t r).1 = tP bs t := by
  unfold RD
  have k : tkF bs (sb bs (tA bs t)) r = none := k
  cases 40 - t with
  | zero =>
    show (if ntT bs (sb bs (tA bs t)) = 0 then (match tkF bs (sb bs (tA bs t)) r with | none => (sb bs (tA bs t), r) | some r' => (-1, r')) else (sb bs (tA bs t), r)).1 = _
    rw [k]
    split <;> rfl
  | succ n =>
    show (match tkF bs (sb bs (tA bs t)) r with | none => (sb bs (tA bs t), r) | some r' => if ntT bs (sb bs (tA bs t)) = 0 then (-1, r') else rdF bs n (ntA bs (sb bs (tA bs t))) r').1 = _
    rw [k]; rfl
theorem RD_400 {bs : List Int} {t : Nat} {r : RS} (k : tK bs t = 400) (s : 8 ≤ r.1.1) (o : r.2.2.1 = []) : RD bs t r = (-1, r) := by
  have z : ntT bs (sb bs (tA bs t)) = 0 := by
    show tT bs t = 0
    unfold tK at k
    by_cases a : tT bs t = 0
    · exact a
    · rw [if_neg a] at k
      have := tT_rng bs t
      split at k
      · omega
      · split at k
        · omega
        · split at k <;> omega
  have tk : tkF bs (sb bs (tA bs t)) r = some r := by unfold tkF; rw [if_pos z, if_pos ⟨s, o⟩]
  unfold RD
  cases 40 - t with
  | zero =>
    show (if ntT bs (sb bs (tA bs t)) = 0 then (match tkF bs (sb bs (tA bs t)) r with | none => (sb bs (tA bs t), r) | some r' => (-1, r')) else (sb bs (tA bs t), r)) = _
    rw [if_pos z, tk]
  | succ n =>
    show (match tkF bs (sb bs (tA bs t)) r with | none => (sb bs (tA bs t), r) | some r' => if ntT bs (sb bs (tA bs t)) = 0 then (-1, r') else rdF bs n (ntA bs (sb bs (tA bs t))) r') = _
    rw [tk]
    show (if ntT bs (sb bs (tA bs t)) = 0 then ((-1 : Int), r) else _) = _
    rw [if_pos z]
/-- a token's kind, the reader's kind -/
theorem tK_T {bs : List Int} {t : Nat} : (tK bs t = 300 → tT bs t = 1 ∧ t ≠ 40) ∧ (tK bs t < 300 → tT bs t = tK bs t ∧ t ≠ 40) ∧ (tK bs t = 400 → tT bs t = 0) ∧ (tK bs t = 401 → t = 40 ∧ tT bs t ≠ 0 ∨ tT bs t = 2) ∧ (tK bs t = 400 ∨ tK bs t = 401 ∨ tK bs t = 300 ∨ tK bs t = 43 ∨ tK bs t = 45 ∨ tK bs t = 34 ∨ tK bs t = 42 ∨ tK bs t = 126 ∨ tK bs t = 94 ∨ tK bs t = 58 ∨ tK bs t = 40 ∨ tK bs t = 41) := by
  have rg := tT_rng bs t
  have e : tK bs t = if tT bs t = 0 then 400 else if t = 40 then 401 else if tT bs t = 1 then 300 else if tT bs t = 2 then 401 else tT bs t := rfl
  by_cases a : tT bs t = 0
  · rw [if_pos a] at e; omega
  · rw [if_neg a] at e
    by_cases b : t = 40
    · rw [if_pos b] at e; omega
    · rw [if_neg b] at e
      by_cases c : tT bs t = 1
      · rw [if_pos c] at e; omega
      · rw [if_neg c] at e
        by_cases f : tT bs t = 2
        · rw [if_pos f] at e; omega
        · rw [if_neg f] at e; omega
theorem RD_401 {bs : List Int} {t : Nat} {r : RS} (k : tK bs t = 401) : (RD bs t r).1 = tP bs t := by
  rcases tK_T.2.2.2.1 k with ⟨a, b⟩ | a
  · subst a
    obtain ⟨p, hp⟩ : ∃ p, p = tA bs 40 := ⟨_, rfl⟩
    have eP : tP bs 40 = sb bs p := by unfold tP; rw [hp]
    have b : ¬ ntT bs (sb bs p) = 0 := by
      unfold tT at b
      rw [eP] at b
      exact b
    unfold RD
    rw [← hp, eP, Nat.sub_self]
    show (if ntT bs (sb bs p) = 0 then (match tkF bs (sb bs p) r with | none => (sb bs p, r) | some r' => (-1, r')) else (sb bs p, r)).1 = _
    rw [if_neg b]
  · refine RD_no ?_
    have a : ntT bs (tP bs t) = 2 := a
    unfold tkF
    rw [a]
    rfl
/-- what the reader does with each kind -/
def tkK (bs : List Int) (t : Nat) (r : RS) : Option RS :=
  if tK bs t = 300 then tkR bs (tP bs t) r
  else if tK bs t = 43 ∨ tK bs t = 45 then tkS r (tK bs t)
  else if tK bs t = 34 then tkQ r
  else if tK bs t = 42 then (if r.1.1 = 8 then some (stF (sdF r 5 1) 10) else none)
  else if tK bs t = 126 then (if r.1.1 = 9 then some (stF r 6) else none)
  else if tK bs t = 94 then (if 8 ≤ r.1.1 ∧ r.1.1 ≠ 11 then some (stF r 7) else none)
  else if tK bs t = 58 then (if r.1.1 = 3 then some (stF r 2) else none)
  else if tK bs t = 40 then tkO r
  else if tK bs t = 41 then tkC r
  else none
theorem tkK_eq {bs : List Int} {t : Nat} {r : RS} (k : tK bs t < 400) : tkF bs (tP bs t) r = tkK bs t r ∧ t ≠ 40 ∧ tT bs t ≠ 0 := by
  obtain ⟨a, b, -, -, rg⟩ := @tK_T bs t
  have e : tT bs t = ntT bs (tP bs t) := rfl
  by_cases z : tK bs t = 300
  · obtain ⟨z1, z2⟩ := a z
    refine ⟨?_, z2, by omega⟩
    unfold tkF tkK
    rw [if_neg (by omega), if_pos (by omega), if_pos z]
  · obtain ⟨z1, z2⟩ := b (by omega)
    refine ⟨?_, z2, by omega⟩
    unfold tkF tkK
    rw [if_neg (by omega), if_neg (by omega), if_neg z, ← e, z1]
/-- the reader goes on, or stops -/
theorem RD_some {bs : List Int} {t : Nat} {r r' : RS} (t4 : t ≤ 40) (k : tK bs t < 400) (e : tkK bs t r = some r') : RD bs t r = RD bs (t + 1) r' := by
  obtain ⟨a, b, c⟩ := @tkK_eq bs t r k
  exact RD_go (by omega) c (a.trans e)
theorem RD_none {bs : List Int} {t : Nat} {r : RS} (k : tK bs t < 400) (e : tkK bs t r = none) : (RD bs t r).1 = tP bs t := RD_no ((@tkK_eq bs t r k).1.trans e)
theorem RD_400n {bs : List Int} {t : Nat} {r : RS} (k : tK bs t = 400) (e : ¬ (8 ≤ r.1.1 ∧ r.2.2.1 = [])) : (RD bs t r).1 = tP bs t := by
  refine RD_no ?_
  have z : ntT bs (tP bs t) = 0 := tK_T.2.2.1 k
  unfold tkF
  rw [if_pos z, if_neg e]
theorem RDI.tkK {bs : List Int} {t : Nat} {n : Nat} {r r' : RS} (I : RDI n r) (k : tK bs t < 400) (e : tkK bs t r = some r') : RDI (n + 1) r' := by
  obtain ⟨a, b, c⟩ := @tkK_eq bs t r k
  exact I.tk c (a.trans e)
/-- the kept tokens -/
theorem TK.succ {h h' : XH} {bs : List Int} {t : Nat} (T : TK h bs t) (k : tK bs t < 400) (e : xpl h' 53 24 = (t : Int) + 1) : TK h' bs (t + 1) := by
  have b := (@tkK_eq bs t (rd0 0 2 0 []) k).2.1
  have t4 := T.1
  refine ⟨by omega, fun j hj => ?_, by rw [e]; omega⟩
  by_cases z : j = t
  · rw [z]; exact k
  · exact T.2.1 j (by omega)
def OPK (r : RS) : Prop := ∀ m ∈ r.2.2.1, ∃ t, r.2.1.1[m]? = some t ∧ t.1 5 = 3
/-- the model and the reader at the token t -/
def RIN (h0 h : XH) (q : Int) (bs : List Int) (RES : Int × RS) (r : RS) (t : Nat) : Prop := PX h0 h q ∧ TK h bs t ∧ xpl h 53 25 = r.2.2.1.length ∧ RDI t r ∧ RD bs t r = RES ∧ OPK r ∧ xpl h q 10 ≤ t ∧ 0 ≤ xpl h q 10
def FAI (h0 h : XH) (q : Int) (bs : List Int) (RES : Int × RS) : Prop := PX h0 h q ∧ ∃ e : Nat, TK h bs e ∧ RES.1 = tP bs e
def DOO (h0 h : XH) (q : Int) (bs : List Int) (RES : Int × RS) : Prop := PX h0 h q ∧ ∃ e : Nat, TK h bs e ∧ tK bs e = 401 ∧ RES.1 = tP bs e ∧ 0 ≤ xpl h q 0 ∧ xpl h q 0 ≤ 40
/-- the state behind a core, a part -/
def ScR (bs : List Int) (r : RS) (t : Nat) : Prop := (r.1.1 = 8 → tK bs t ≠ 42) ∧ (r.1.1 = 9 → tK bs t ≠ 126)
def SpR (bs : List Int) (r : RS) (t : Nat) : Prop := ScR bs r t ∧ (8 ≤ r.1.1 → r.1.1 ≠ 11 → tK bs t ≠ 94)
/-- the parts stay, with their fields -/
def STB (r r' : RS) : Prop := ∀ (m : Nat) (t : PT), r.2.1.1[m]? = some t → ∃ t', r'.2.1.1[m]? = some t' ∧ t'.1 2 = t.1 2
theorem STB.refl (r : RS) : STB r r := fun _ t z => ⟨t, z, rfl⟩
theorem STB.trans {a b c : RS} (x : STB a b) (y : STB b c) : STB a c := fun m t z => by
  obtain ⟨t1, z1, z2⟩ := x m t z
  obtain ⟨t2, z3, z4⟩ := y m t1 z1
  exact ⟨t2, z3, z4.trans z2⟩
theorem STB.ap {r r' : RS} {q : Nat} {t : PT} (e : r'.2.1.1 = (apD r.2.1 q t).1) : STB r r' := fun m t0 z => by
  refine ⟨t0, ?_, rfl⟩
  rw [e]
  show (r.2.1.1 ++ [t])[m]? = some t0
  rw [List.getElem?_append_left (List.getElem?_eq_some_iff.mp z).1]; exact z
/-- what a core's reading does -/
def CORS (G : XG) (h0 : XH) (q : Int) (bs : List Int) (RES : Int × RS) (L : Nat) : Prop := ∀ (d : Nat) (h : XH) (Q : XV → XH → Prop) (X : Nat → XH → Prop) (r : RS) (t : Nat), RIN h0 h q bs RES r t → PIC h q r.2.1 (r.2.1.1.length + 1) → ccb r.1.1 = true → PeR h q r.2.1.1.length (bcF r).1.2.1 (fldV r) (inoV r) (xpl h q 10) → r.2.2.1.length + L = 4 →
  ((bcF r).1.2.2 = 2 → tK bs t = 300 → nmF (runL bs (tP bs t) (tA bs (t + 1))) ≠ 2 → tK bs (t + 1) ≠ 58) →
  (tK bs t ≠ 300 → tK bs t ≠ 40 → tK bs t ≠ 34 → RES.1 = tP bs t) →
  (∀ h', FAI h0 h' q bs RES → Q (xI 0) h') →
  (∀ h' r' t', RIN h0 h' q bs RES r' t' → PIC h' q r'.2.1 r'.2.1.1.length → t < t' → r'.2.2.1 = r.2.2.1 → r'.2.2.2.1 = r.2.1.1.length → (r.2.1.1.length < r'.2.1.1.length ∧ STB r r') → 8 ≤ r'.1.1 → r'.1.1 ≤ 10 → ScR bs r' t' → Q (xI 1) h') →
  (∀ h', DOO h0 h' q bs RES → Q (xI 1) h') → xwp G m_M_isCore (d + 3 * L + 9) 0 [xR 53, xI (r.2.1.1.length : Nat)] [] h Q X
def PARS (G : XG) (h0 : XH) (q : Int) (bs : List Int) (RES : Int × RS) (L : Nat) : Prop := ∀ (d : Nat) (h : XH) (Q : XV → XH → Prop) (X : Nat → XH → Prop) (r : RS) (t : Nat), RIN h0 h q bs RES r t → PIC h q r.2.1 r.2.1.1.length → cpb r.1.1 = true → SpR bs r t → r.2.2.1.length + L = 4 →
  (8 ≤ r.1.1 → if r.2.2.1 = [] then tK bs t ≠ 400 else tK bs t ≠ 41) →
  (∀ h', FAI h0 h' q bs RES → Q (xI 0) h') →
  (∀ h' r' t', RIN h0 h' q bs RES r' t' → PIC h' q r'.2.1 r'.2.1.1.length → t < t' → r'.2.2.1 = r.2.2.1 → 8 ≤ r'.1.1 → STB r r' → SpR bs r' t' → Q (xI 1) h') →
  (∀ h', DOO h0 h' q bs RES → Q (xI 1) h') → xwp G m_M_isPart (d + 3 * L + 10) 0 [xR 53, xI (inoV r), xI (arF r.2.1 r.2.2.1).1, xZ, xZ, xZ] [] h Q X
def QUES (G : XG) (h0 : XH) (q : Int) (bs : List Int) (RES : Int × RS) (L : Nat) : Prop := ∀ (d : Nat) (h : XH) (Q : XV → XH → Prop) (X : Nat → XH → Prop) (r : RS) (t : Nat), RIN h0 h q bs RES r t → PIC h q r.2.1 r.2.1.1.length → cpb r.1.1 = true → SpR bs r t → r.2.2.1.length + L = 4 →
  (8 ≤ r.1.1 → if r.2.2.1 = [] then tK bs t ≠ 400 else tK bs t ≠ 41) →
  (∀ h', FAI h0 h' q bs RES → Q (xI 0) h') →
  (∀ h' r' t', RIN h0 h' q bs RES r' t' → PIC h' q r'.2.1 r'.2.1.1.length → t < t' → r'.2.2.1 = r.2.2.1 → 8 ≤ r'.1.1 → STB r r' → (if r.2.2.1 = [] then tK bs t' = 400 else tK bs t' = 41) → Q (xI 1) h') → xwp G m_M_isQuestion (d + 3 * L + 11) 0 [xR 53, xI (inoV r), xI (arF r.2.1 r.2.2.1).1] [] h Q X

end
