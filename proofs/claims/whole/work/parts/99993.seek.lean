/-! ===== seek ===== -/
section
/-! the model looks along a field -/
theorem QC.of {h h' : XH} {q : Int} (C : QC h q) (o : ∀ c k, q ≤ c → c ≤ q + 11 → xpl h' c k = xpl h c k) (t : ∀ c, q ≤ c → c ≤ q + 11 → xtg h' c = xtg h c) (l : ∀ c, q ≤ c → c ≤ q + 11 → xln h' c = xln h c) (n : xnx h ≤ xnx h') : QC h' q := by
  obtain ⟨⟨a1, a2, a3⟩, b, c, ⟨d1, d2, d3⟩, e1, e2, e3⟩ := C
  refine ⟨⟨a1, by omega, a3⟩, (t _ (by omega) (by omega)).trans b, fun k k1 k9 => ?_, ⟨(o _ _ (by omega) (by omega)).trans d1, (t _ (by omega) (by omega)).trans d2, (l _ (by omega) (by omega)).trans d3⟩, (o _ _ (by omega) (by omega)).trans e1, (t _ (by omega) (by omega)).trans e2, (l _ (by omega) (by omega)).trans e3⟩
  obtain ⟨c1, c2, c3⟩ := c k k1 k9
  exact ⟨(o _ _ (by omega) (by omega)).trans c1, (t _ (by omega) (by omega)).trans c2, (l _ (by omega) (by omega)).trans c3⟩
theorem PIC.of {h h' : XH} {q n : Int} {D : DR} (C : PIC h q D n) (o : ∀ c k, q ≤ c → c ≤ q + 11 → xpl h' c k = xpl h c k) : PIC h' q D n := by
  obtain ⟨c1, c2, c3, c4⟩ := C
  refine ⟨(o _ _ (by omega) (by omega)).trans c1, fun i t z => ?_, fun qi ns m z1 z2 => ?_, fun c k hc z1 z2 => (o _ _ (by omega) (by omega)).trans (c4 c k hc z1 z2)⟩
  · exact (c2 i t z).keep (w := xpl h q 10) (fun c x y => o _ _ (by omega) (by omega)) (fun c k x y => o _ _ (by omega) (by omega)) (Int.le_refl _) (by rw [o _ _ (by omega) (by omega)]; exact Int.le_refl _)
  · rw [o _ _ (by omega) (by omega)]; exact c3 qi ns m z1 z2
theorem MQR.of {h h' : XH} {q : Int} {D : DR} {C : Int → Prop} (A : MQR h q D) (S : xsm C h h') (e19 : xpl h' 53 19 = xpl h 53 19) (hC : ∀ c, q ≤ c → c ≤ q + 11 → ¬ C c) : MQR h' q D := by
  obtain ⟨a1, a2, a3, a4, a5⟩ := A
  have qn := a2.1.2.1
  have o : ∀ c k, q ≤ c → c ≤ q + 11 → xpl h' c k = xpl h c k := fun c k x y => S.pl (by omega) (hC c x y) k
  exact ⟨e19.trans a1, a2.of o (fun c x y => S.tg (by omega)) (fun c x y => S.ln (by omega)) S.nx, a3.of o, a4, by rw [o _ _ (by omega) (by omega)]; exact a5⟩
/-- only the fits of a cell are written -/
def SK (h h' : XH) (c : Int) : Prop := xFix h' ∧ xsm (fun a => a = 81 ∨ a = 82) h h' ∧ (∀ a k : Int, (a ≠ 81 ∧ a ≠ 82) ∨ k ≠ c → xpl h' a k = xpl h a k) ∧ xnx h' = xnx h ∧ xsl h' = xsl h
theorem SK.trans {a b e : XH} {c : Int} (x : SK a b c) (y : SK b e c) : SK a e c := ⟨y.1, x.2.1.trans y.2.1, fun i k z => (y.2.2.1 i k z).trans (x.2.2.1 i k z), y.2.2.2.1.trans x.2.2.2.1, y.2.2.2.2.trans x.2.2.2.2⟩
theorem SK.mqr {h h' : XH} {c q : Int} {D : DR} (K : SK h h' c) (A : MQR h q D) : MQR h' q D := by
  have b := A.2.1.1
  exact A.of K.2.1 (K.2.2.1 53 19 (Or.inl (by decide))) (fun c x y => by omega)
theorem SK.wor {h h' : XH} {c x : Int} {row : List Int} (K : SK h h' c) (W : WoR h x row) : WoR h' x row := ⟨W.1, fun k hk => by
  rw [K.2.2.1 62 _ (Or.inl (by decide))]; exact W.2 k hk⟩
theorem seek_plain {G : XG} {d : Nat} {h : XH} {Q : XV → XH → Prop} {X : Nat → XH → Prop} {q x c : Int} {D : DR} {i : Nat} {pt : PT} {row : List Int} (F : xFix h) (A : MQR h q D) (hi : D.1[i]? = some pt) (ok : PTok pt) (W : WoR h x row) (k3 : pt.1 5 ≠ 3) (c0 : 0 ≤ c) (c1 : c < 4920) (T : MatC h c (0, -1))
    (hq : ∀ h', SK h h' c → MatC h' c (scF (dfF pt row) row.length 0 (0, -1)) → Q xN h') : xwp G m_M_seek (d + 3) 126 [xR 53, xI (i : Nat), xZ, xZ, xI c, xI x, xI (row.length : Nat), xI 0] [] h Q X := by
  have rl := W.1
  have loop : ∀ (m k : Nat) (h1 : XH) (t : MR), k + m = row.length → SK h h1 c → MatC h1 c t → 0 ≤ t.1 → t.1 ≤ k → scF (dfF pt row) m k t = scF (dfF pt row) row.length 0 (0, -1) → xwp G m_M_seek (d + 3) 126 [xR 53, xI (i : Nat), xZ, xZ, xI c, xI x, xI (row.length : Nat), xI (k : Nat)] [] h1 Q X := by
    intro m
    induction m with
    | zero =>
      intro k h1 t ek K1 T1 t0 t1 e
      refine v_M_seek_126 K1.1 ⟨fun _ => hq h1 K1 (by rw [← e]; exact T1), fun y => absurd (by omega) y⟩
    | succ m ih =>
      intro k h1 t ek K1 T1 t0 t1 e
      have e : scF (dfF pt row) m (k + 1) (if dfF pt row k = true then htF t k else t) = scF (dfF pt row) row.length 0 (0, -1) := e
      have nxt : ∀ h2 t2, SK h h2 c → MatC h2 c t2 → 0 ≤ t2.1 → t2.1 ≤ (k : Int) + 1 → scF (dfF pt row) m (k + 1) t2 = scF (dfF pt row) row.length 0 (0, -1) → xwp G m_M_seek (d + 3) 155 [xR 53, xI (i : Nat), xZ, xZ, xI c, xI x, xI (row.length : Nat), xI (k : Nat)] [] h2 Q X := fun h2 t2 K2 T2 a b e2 => by
        refine v_M_seek_155 K2.1 ⟨⟨by omega, by omega⟩, ?_⟩
        have go := ih (k + 1) h2 t2 (by omega) K2 T2 a (by omega) e2
        rw [show ((k + 1 : Nat) : Int) = (k : Int) + 1 by omega] at go
        exact go
      refine v_M_seek_126 K1.1 ⟨fun y => by omega, fun _ => ?_⟩
      refine p_M_doesFit K1.1 (K1.mqr A) hi ok (K1.wor W) (by omega) k3 ?_
      refine v_M_seek_144 K1.1 ⟨fun y => ?_, fun y => ?_⟩
      · have z := bz0 y
        rw [z] at e
        exact nxt h1 t K1 T1 t0 (by omega) e
      · have z := bz1 y
        rw [if_pos z] at e
        refine s_M_note K1.1 T1 c0 c1 t0 (by omega) (fun h2 F2 S2 T2 o2 n2 l2 => ?_)
        refine nxt h2 (htF t k) (K1.trans ⟨F2, S2, o2, n2, l2⟩) T2 ?_ ?_ e
        · show 0 ≤ t.1 + 1
          omega
        · show t.1 + 1 ≤ (k : Int) + 1
          omega
  exact loop row.length 0 h (0, -1) (by omega) ⟨F, xsm.refl h, fun _ _ _ => rfl, rfl, rfl⟩ T (Int.le_refl _) (Int.le_refl _) rfl
/-- the class looks in the same way, but for phrases of near words -/
theorem lookF_pl {pt : PT} {row : List Int} (ok : PTok pt) (k3 : pt.1 5 ≠ 3) (nn : pt.1 5 = 2 → pt.1 7 = 0) (t : MR) : lookF pt row t = scF (dfF pt row) row.length 0 t := by
  have k5 := ok.2.2.2.1
  unfold lookF
  by_cases z0 : pt.1 5 = 0
  · rw [if_pos z0]
    have e : dfF pt row = fun k => decide (rwA row k = fwL pt.2) := by funext k; unfold dfF; rw [if_pos z0]
    rw [e]
  · rw [if_neg z0]
    by_cases z1 : pt.1 5 = 1
    · rw [if_pos z1]
      have e : dfF pt row = fun k => bgw (rwA row k) (pt.1 8) (pt.1 9) := by funext k; unfold dfF; rw [if_neg z0, if_pos z1]
      rw [e]
    · rw [if_neg z1, if_pos (by omega), if_pos (nn (by omega))]
      have e : dfF pt row = fun k => phA row pt.2 k := by funext k; unfold dfF; rw [if_neg z0, if_neg z1]
      rw [e]

end
