/-! ===== prpure ===== -/
section
/-! the model reads a question: the reader's steps, pure -/
theorem RD_stop {bs : List Int} {t : Nat} {r : RS} (k3 : tK bs t ≠ 300) (hs : tK bs t = 43 ∨ tK bs t = 45 → cpb r.1.1 = false) (hq : tK bs t = 34 → tkQ r = none) (h42 : tK bs t = 42 → r.1.1 ≠ 8) (h126 : tK bs t = 126 → r.1.1 ≠ 9) (h94 : tK bs t = 94 → ¬ (8 ≤ r.1.1 ∧ r.1.1 ≠ 11)) (h58 : tK bs t = 58 → r.1.1 ≠ 3) (h40 : tK bs t = 40 → tkO r = none) (h41 : tK bs t = 41 → tkC r = none) (h400 : tK bs t = 400 → ¬ (8 ≤ r.1.1 ∧ r.2.2.1 = [])) : (RD bs t r).1 = tP bs t := by
  by_cases y0 : tK bs t = 400
  · exact RD_400n y0 (h400 y0)
  · by_cases y1 : tK bs t = 401
    · exact RD_401 y1
    · have rg := (@tK_T bs t).2.2.2.2
      refine RD_none (by omega) ?_
      unfold tkK
      rw [if_neg k3]
      by_cases z1 : tK bs t = 43 ∨ tK bs t = 45
      · rw [if_pos z1]
        unfold tkS
        rw [hs z1]; rfl
      · rw [if_neg z1]
        by_cases z2 : tK bs t = 34
        · rw [if_pos z2]; exact hq z2
        · rw [if_neg z2]
          by_cases z3 : tK bs t = 42
          · rw [if_pos z3, if_neg (h42 z3)]
          · rw [if_neg z3]
            by_cases z4 : tK bs t = 126
            · rw [if_pos z4, if_neg (h126 z4)]
            · rw [if_neg z4]
              by_cases z5 : tK bs t = 94
              · rw [if_pos z5, if_neg (h94 z5)]
              · rw [if_neg z5]
                by_cases z6 : tK bs t = 58
                · rw [if_pos z6, if_neg (h58 z6)]
                · rw [if_neg z6]
                  by_cases z7 : tK bs t = 40
                  · rw [if_pos z7]; exact h40 z7
                  · rw [if_neg z7]
                    by_cases z8 : tK bs t = 41
                    · rw [if_pos z8]; exact h41 z8
                    · rw [if_neg z8]
theorem ccb_no {s : Int} (h : 3 ≤ s) (h2 : s ≤ 7) : ccb s = false ∧ cpb s = false := ⟨decide_eq_false (by omega), decide_eq_false (by omega)⟩
/-- in the midst of a part nothing else goes on -/
theorem RD_mid {bs : List Int} {t : Nat} {r : RS} (k3 : tK bs t ≠ 300) (s3 : 4 ≤ r.1.1) (s7 : r.1.1 ≤ 7) (hq : r.1.1 = 5 → tK bs t ≠ 34) : (RD bs t r).1 = tP bs t := by
  obtain ⟨cc, cp⟩ := ccb_no (s := r.1.1) (by omega) s7
  refine RD_stop k3 (fun _ => cp) (fun z => ?_) (fun _ => by omega) (fun _ => by omega) (fun _ => by omega) (fun _ => by omega) (fun _ => ?_) (fun _ => ?_) (fun _ => by omega)
  · unfold tkQ
    rw [if_neg (fun y => hq y z), cc]; rfl
  · unfold tkO
    rw [if_neg]
    rw [cc]
    exact fun y => absurd y.1 (by decide)
  · unfold tkC
    rw [if_neg (by omega)]
/-- a number is awaited -/
theorem nm_nu {bs : List Int} {t : Nat} (k : tK bs t = 300) : (nmV bs t = -1 → nuR bs (tP bs t) (tA bs (t + 1)) = none) ∧ (nmV bs t ≠ -1 → nuR bs (tP bs t) (tA bs (t + 1)) = some (nmV bs t)) := by
  obtain ⟨a, b⟩ := tK_300 k
  have e : nmV bs t = (match nuR bs (tP bs t) (tA bs (t + 1)) with | some v => v | none => -1) := by unfold nmV; rw [if_pos ⟨a, b⟩]; rfl
  cases z : nuR bs (tP bs t) (tA bs (t + 1)) with
  | none =>
    rw [z] at e
    exact ⟨fun _ => rfl, fun y => absurd e y⟩
  | some v =>
    rw [z] at e
    have e : nmV bs t = v := e
    refine ⟨fun y => ?_, fun _ => by rw [e]⟩
    exfalso
    unfold nuR at z
    by_cases w : tA bs (t + 1) - tP bs t ≤ 2
    · rw [if_pos w] at z
      have := (nuF_rng bs _ _ 0 0 v (by omega) (Int.le_refl _) (by
        have : (tA bs (t + 1) - tP bs t).toNat = 0 ∨ (tA bs (t + 1) - tP bs t).toNat = 1 ∨ (tA bs (t + 1) - tP bs t).toNat = 2 := by omega
        rcases this with y | y | y <;> rw [y] <;> decide) z).1
      omega
    · rw [if_neg w] at z; cases z
theorem RD_num {bs : List Int} {t : Nat} {r : RS} (n : nmV bs t = -1) (s : r.1.1 = 6 ∨ r.1.1 = 7) : (RD bs t r).1 = tP bs t := by
  by_cases k3 : tK bs t = 300
  · refine RD_none (by omega) ?_
    unfold tkK tkR
    rw [if_pos k3, if_neg (by omega), if_pos s]
    have e : nuR bs (tP bs t) (ntA bs (tP bs t)) = none := (nm_nu k3).1 n
    rw [e]
  · exact RD_mid k3 (by omega) (by omega) (fun y => by omega)
theorem tk_num {bs : List Int} {t : Nat} {r : RS} (k3 : tK bs t = 300) (n : nmV bs t ≠ -1) (s : r.1.1 = 6 ∨ r.1.1 = 7) : tkK bs t r = some (if r.1.1 = 6 then stF (sdF r 7 (nmV bs t)) 10 else stF (sdF r 6 (nmV bs t)) 11) := by
  unfold tkK tkR
  rw [if_pos k3, if_neg (by omega), if_pos s]
  have e : nuR bs (tP bs t) (ntA bs (tP bs t)) = some (nmV bs t) := (nm_nu k3).2 n
  rw [e]
/-- a run in a core: a field's name, or a part -/
theorem lat58 {bs : List Int} {t : Nat} : lat bs (sb bs (ntA bs (tP bs t))) = 58 ↔ tT bs (t + 1) = 58 := by
  have e : tT bs (t + 1) = ntT bs (sb bs (ntA bs (tP bs t))) := rfl
  rw [e]
  obtain ⟨s, hs⟩ : ∃ s, s = sb bs (ntA bs (tP bs t)) := ⟨_, rfl⟩
  rw [← hs]
  unfold ntT
  constructor
  · intro z
    rw [if_neg (by omega), z, if_pos (by decide), if_pos (by decide)]
  · intro z
    by_cases a : lat bs s = -1
    · rw [if_pos a] at z; omega
    · rw [if_neg a] at z
      by_cases b : sgn (lat bs s) = 0
      · rw [if_pos b] at z
        by_cases c : tsF (lat bs s) = true
        · rw [if_pos c] at z; exact z
        · rw [if_neg c] at z; omega
      · rw [if_neg b] at z; split at z <;> omega
def runT (bs : List Int) (t : Nat) (r : RS) : PT := upP (upP (npT (bcF r) 0 [wdT bs t]) 8 (stV bs t)) 9 (tA bs (t + 1) - tP bs t)
theorem seD_ap (D : DR) (q : Nat) (t : PT) (k v : Int) : seD (apD D q t) D.1.length k v = apD D q (upP t k v) := by
  show ((D.1 ++ [t]).set D.1.length (upP (((D.1 ++ [t])[D.1.length]?).getD _) k v), _) = (D.1 ++ [upP t k v], _)
  rw [List.getElem?_append_right (Nat.le_refl _), Nat.sub_self]
  refine Prod.ext ?_ rfl
  show (D.1 ++ [t]).set D.1.length _ = _
  rw [List.set_append_right _ _ (Nat.le_refl _), Nat.sub_self]; rfl
/-- the number of the question that a part comes to -/
def quN (r : RS) : Nat := (arF r.2.1 r.2.2.1).2.2.toNat
theorem apF_bc (r : RS) (k : Int) (ws : List Int) : apF (bcF r) k ws = ((bcF r).1, apD r.2.1 (quN r) (npT (bcF r) k ws), r.2.2.1, r.2.1.1.length, r.2.2.2.2) := by
  have e := (bcF_st r).2
  show ((bcF r).1, apD (bcF r).2.1 (arF (bcF r).2.1 (bcF r).2.2.1).2.2.toNat (npT (bcF r) k ws), (bcF r).2.2.1, (bcF r).2.1.1.length, (bcF r).2.2.2.2) = _
  rw [e]; rfl
theorem npT_at (r : RS) (k : Int) (ws : List Int) : (npT (bcF r) k ws).1 1 = (bcF r).1.2.1 ∧ (npT (bcF r) k ws).1 2 = fldV r ∧ (npT (bcF r) k ws).1 5 = k ∧ (npT (bcF r) k ws).1 6 = 1 ∧ (npT (bcF r) k ws).1 7 = 0 ∧ (npT (bcF r) k ws).2 = ws := by
  refine ⟨rfl, ?_, rfl, rfl, rfl, rfl⟩
  show (if (bcF r).1.2.2 = 2 then (arF (bcF r).2.1 (bcF r).2.2.1).1 else (bcF r).1.2.2) = fldV r
  rw [(bcF_st r).2]; rfl
theorem tk_run {bs : List Int} {t : Nat} {r : RS} (k3 : tK bs t = 300) (cc : ccb r.1.1 = true) (nf : ¬ ((bcF r).1.2.2 = 2 ∧ nmF (runL bs (tP bs t) (tA bs (t + 1))) ≠ 2 ∧ tT bs (t + 1) = 58)) : tkK bs t r = some ((8, (bcF r).1.2), apD r.2.1 (quN r) (runT bs t r), r.2.2.1, r.2.1.1.length, r.2.2.2.2) := by
  have c2 := of_decide_eq_true (by unfold ccb at cc; exact cc)
  unfold tkK tkR
  rw [if_pos k3, if_neg (by omega), if_neg (by omega), if_pos cc, if_neg (fun y => nf ⟨y.1, y.2.1, lat58.mp y.2.2⟩), apF_bc]
  show some ((8, (bcF r).1.2), seD (seD (apD r.2.1 (quN r) (npT (bcF r) 0 [wdT bs t])) r.2.1.1.length 8 (stV bs t)) r.2.1.1.length 9 (tA bs (t + 1) - tP bs t), r.2.2.1, r.2.1.1.length, r.2.2.2.2) = _
  rw [seD_ap, seD_ap]; rfl
theorem tk_fld {bs : List Int} {t : Nat} {r : RS} (k3 : tK bs t = 300) (cc : ccb r.1.1 = true) (nf : (bcF r).1.2.2 = 2 ∧ nmF (runL bs (tP bs t) (tA bs (t + 1))) ≠ 2 ∧ tT bs (t + 1) = 58) : tkK bs t r = some ((3, (bcF r).1.2.1, nmF (runL bs (tP bs t) (tA bs (t + 1)))), r.2) := by
  have c2 := of_decide_eq_true (by unfold ccb at cc; exact cc)
  unfold tkK tkR
  rw [if_pos k3, if_neg (by omega), if_neg (by omega), if_pos cc, if_pos ⟨nf.1, nf.2.1, lat58.mpr nf.2.2⟩]
  show some ((3, (bcF r).1.2.1, nmF (runL bs (tP bs t) (tA bs (t + 1)))), (bcF r).2) = _
  rw [(bcF_st r).2]
def quT (r : RS) : PT := upP (npT (bcF r) 3 []) 10 r.2.1.2.length
theorem tk_opn {bs : List Int} {t : Nat} {r : RS} (k : tK bs t = 40) (cc : ccb r.1.1 = true) (o4 : r.2.2.1.length < 4) : tkK bs t r = some ((0, (bcF r).1.2), adQ (apD r.2.1 (quN r) (quT r)), r.2.2.1 ++ [r.2.1.1.length], r.2.1.1.length, r.2.2.2.2) := by
  have e : tkK bs t r = tkO r := by unfold tkK; rw [k]; rfl
  rw [e]
  unfold tkO
  rw [if_pos ⟨cc, o4⟩, apF_bc]
  show some ((0, (bcF r).1.2), adQ (seD (apD r.2.1 (quN r) (npT (bcF r) 3 [])) r.2.1.1.length 10 r.2.1.2.length), r.2.2.1 ++ [r.2.1.1.length], r.2.1.1.length, r.2.2.2.2) = _
  rw [seD_ap]; rfl
/-! the picture grows -/
theorem PIC.ap {h h' : XH} {q fr : Int} {D : DR} {qn : Nat} {t9 : PT} (C : PIC h q D (D.1.length + 1)) (K : KP h h' q D.1.length fr) (f0 : xpl h q 10 = fr) (f1 : fr ≤ xpl h' q 10) (R : RoR h' q D.1.length t9) (lt : ∀ ns ∈ D.2, ∀ m ∈ ns, m < D.1.length) (e1 : xpl h' (q + 1) D.1.length = xpl h (q + 1) D.1.length)
    (hi : (qn = 0 ∧ xpl h (q + 1) D.1.length = -1) ∨ ∃ (o : Nat) (to : PT), D.1[o]? = some to ∧ to.1 5 = 3 ∧ to.1 10 = qn ∧ xpl h (q + 1) D.1.length = o) : PIC h' q (apD D qn t9) (D.1.length + 1) := by
  obtain ⟨c1, c2, c3, c4⟩ := C
  obtain ⟨k1, k2, k3, k4⟩ := K
  have ln : (apD D qn t9).1.length = D.1.length + 1 := by show (D.1 ++ [t9]).length = _; rw [List.length_append]; rfl
  have old : ∀ (o : Nat) (to : PT), D.1[o]? = some to → (apD D qn t9).1[o]? = some to ∧ o < D.1.length := fun o to z => by
    have lo := (List.getElem?_eq_some_iff.mp z).1
    refine ⟨?_, lo⟩
    show (D.1 ++ [t9])[o]? = some to
    rw [List.getElem?_append_left lo]; exact z
  refine ⟨k3.trans c1, fun i t z => ?_, fun qi ns m z1 z2 => ?_, fun c k hc z1 z2 => ?_⟩
  · have z : (D.1 ++ [t9])[i]? = some t := z
    by_cases y : i < D.1.length
    · rw [List.getElem?_append_left y] at z
      exact (c2 i t z).keep (fun c x x9 => k1 c i x x9 (by omega)) (fun c k x y => k2 c k x y) (by omega) f1
    · have hl := (List.getElem?_eq_some_iff.mp z).1
      rw [List.length_append] at hl
      have hl : i < D.1.length + 1 := hl
      have ei : i = D.1.length := by omega
      subst ei
      rw [List.getElem?_append_right (Nat.le_refl _), Nat.sub_self] at z
      have z : t9 = t := Option.some.inj z
      rw [← z]; exact R
  · have kept : ∀ ns0, D.2[qi]? = some ns0 → m ∈ ns0 → m < (apD D qn t9).1.length ∧ ((qi = 0 ∧ xpl h' (q + 1) m = -1) ∨ ∃ (o : Nat) (to : PT), (apD D qn t9).1[o]? = some to ∧ to.1 5 = 3 ∧ to.1 10 = qi ∧ o < m ∧ xpl h' (q + 1) m = o) := fun ns0 y1 y2 => by
      obtain ⟨lm, r⟩ := c3 qi ns0 m y1 y2
      have e : xpl h' (q + 1) m = xpl h (q + 1) m := k1 _ _ (by omega) (by omega) (by omega)
      rw [ln, e]
      refine ⟨by omega, ?_⟩
      rcases r with r | ⟨o, to, r1, r2⟩
      · exact Or.inl r
      · exact Or.inr ⟨o, to, (old o to r1).1, r2⟩
    have z1 : (D.2.set qn (((D.2[qn]?).getD []) ++ [D.1.length]))[qi]? = some ns := z1
    rw [List.getElem?_set] at z1
    by_cases y : qn = qi
    · rw [if_pos y] at z1
      by_cases y2 : qn < D.2.length
      · rw [if_pos y2] at z1
        have z1 := Option.some.inj z1
        rw [← z1] at z2
        rw [List.getElem?_eq_getElem y2] at z2
        rcases List.mem_append.mp z2 with x | x
        · exact kept D.2[qn] (by rw [← y]; exact List.getElem?_eq_getElem y2) x
        · rw [List.mem_singleton] at x
          rw [x, ln, e1, ← y]
          refine ⟨by omega, ?_⟩
          rcases hi with r | ⟨o, to, r1, r2, r3, r4⟩
          · exact Or.inl r
          · exact Or.inr ⟨o, to, (old o to r1).1, r2, r3, (old o to r1).2, r4⟩
      · rw [if_neg y2] at z1; cases z1
    · rw [if_neg y] at z1
      exact kept ns z1 z2
  · rw [k1 c k (by omega) (by omega) (by omega)]
    exact c4 c k hc z1 z2
theorem PIC.adq {h : XH} {q n : Int} {D : DR} (C : PIC h q D n) : PIC h q (adQ D) n := by
  obtain ⟨c1, c2, c3, c4⟩ := C
  refine ⟨c1, c2, fun qi ns m z1 z2 => ?_, c4⟩
  have z1 : (D.2 ++ [[]])[qi]? = some ns := z1
  by_cases z : qi < D.2.length
  · rw [List.getElem?_append_left z] at z1; exact c3 qi ns m z1 z2
  · rw [List.getElem?_append_right (by omega)] at z1
    have := List.mem_of_getElem? z1
    rw [List.mem_singleton] at this
    rw [this] at z2; cases z2

end
