/-! ===== frames: what a stretch of a run leaves as it was ===== -/
section
theorem xFix.upA {h : XH} (F : xFix h) {a : Int} {f : Int → Int} (hf : xfreeA a = true) : xFix (xup h a f) := by
  refine ⟨F.1, fun q hq => ?_, F.2.2⟩
  have := List.all_eq_true.mp hf q hq
  rw [xpl_up, if_neg (by simpa using this)]
  exact F.2.1 q hq
theorem xFix.upD {h : XH} (F : xFix h) {a : Int} {f : Int → Int} (hf : 93 ≤ a) : xFix (xup h a f) := by
  refine ⟨F.1, fun q hq => ?_, F.2.2⟩
  have := xfP_lt q hq
  rw [xpl_up, if_neg (by omega)]
  exact F.2.1 q hq
/-- the fixed places of cells of class t -/
def xfTg (a : Int) : Nat := ((xfT.find? (fun e => e.1 == a)).map (fun e => e.2.1)).getD 998
def xfTK (t : Nat) (k : Int) : Bool := xfP.all (fun q => decide (q.1 < 0) || !(xfTg q.1 == t) || !(q.2.1 == k))
def xfTA (t : Nat) : Bool := xfP.all (fun q => decide (q.1 < 0) || !(xfTg q.1 == t))
theorem xfTg_ok {h : XH} (F : xFix h) : ∀ q ∈ xfP, xtg h q.1 = xfTg q.1 := by
  intro q hq
  have key : ∀ q ∈ xfP, (xfT.find? (fun e => e.1 == q.1)).isSome = true := by decide +kernel
  have h1 := key q hq
  unfold xfTg
  cases he : xfT.find? (fun e => e.1 == q.1) with
  | none => rw [he] at h1; cases h1
  | some e =>
    have h2 := List.mem_of_find?_eq_some he
    have h3 := List.find?_some he
    simp only [beq_iff_eq] at h3
    show _ = e.2.1
    rw [← h3]
    exact (F.1 e h2).1
theorem xFix.stT {h : XH} (F : xFix h) {a k v : Int} {t : Nat} (h0 : 0 ≤ a) (ht : xtg h a = t) (hk : xfTK t k = true) : xFix (xst h a k v) := F.st fun q hq e1 e2 => by
  have h1 := List.all_eq_true.mp hk q hq
  have h2 := xfTg_ok F q hq
  rw [e1, ht] at h2
  simp [e1, e2, ← h2] at h1
  omega
theorem xfTA_ne {h : XH} (F : xFix h) {a : Int} {t : Nat} (h0 : 0 ≤ a) (ht : xtg h a = t) (hk : xfTA t = true) : ∀ q ∈ xfP, q.1 = a → False := fun q hq e1 => by
  have h1 := List.all_eq_true.mp hk q hq
  have h2 := xfTg_ok F q hq
  rw [e1, ht] at h2
  simp [e1, ← h2] at h1
  omega
theorem xFix.stTA {h : XH} (F : xFix h) {a k v : Int} {t : Nat} (h0 : 0 ≤ a) (ht : xtg h a = t) (hk : xfTA t = true) : xFix (xst h a k v) := F.st fun q hq e1 e2 => xfTA_ne F h0 ht hk q hq e1
theorem xFix.upTA {h : XH} (F : xFix h) {a : Int} {f : Int → Int} {t : Nat} (h0 : 0 ≤ a) (ht : xtg h a = t) (hk : xfTA t = true) : xFix (xup h a f) := by
  refine ⟨F.1, fun q hq => ?_, F.2.2⟩
  rw [xpl_up, if_neg (fun e => xfTA_ne F h0 ht hk q hq e)]
  exact F.2.1 q hq
theorem xpl_up1 (h : XH) (a : Int) (f : Int → Int) (j : Int) : xpl (xup h a f) a j = f j := by rw [xpl_up, if_pos rfl]
theorem xpl_up2 {h : XH} {a : Int} {f : Int → Int} {b j : Int} (e : b ≠ a) : xpl (xup h a f) b j = xpl h b j := by rw [xpl_up, if_neg e]
/-- h' is h run on: old cells keep class and length; outside C also what they hold; the place -1 is the prover's own mark -/
def xsm (C : Int → Prop) (h h' : XH) : Prop := xnx h ≤ xnx h' ∧ xsl h ≤ xsl h' ∧ ∀ a, a < xnx h → xtg h' a = xtg h a ∧ xln h' a = xln h a ∧ xpl h' a (-1) = xpl h a (-1) ∧ (¬ C a → ∀ k, xpl h' a k = xpl h a k)
theorem xsm.refl {C : Int → Prop} (h : XH) : xsm C h h := ⟨by omega, by omega, fun a _ => ⟨rfl, rfl, rfl, fun _ _ => rfl⟩⟩
theorem xsm.trans {C : Int → Prop} {h h1 h2 : XH} (a : xsm C h h1) (b : xsm C h1 h2) : xsm C h h2 := by
  refine ⟨by have := a.1; have := b.1; omega, by have := a.2.1; have := b.2.1; omega, fun c hc => ?_⟩
  obtain ⟨a1, a2, a3, a4⟩ := a.2.2 c hc
  obtain ⟨b1, b2, b3, b4⟩ := b.2.2 c (by have := a.1; omega)
  exact ⟨b1.trans a1, b2.trans a2, b3.trans a3, fun hn k => (b4 hn k).trans (a4 hn k)⟩
theorem xsm.mono {C D : Int → Prop} {h h' : XH} (a : xsm C h h') (hCD : ∀ c, c < xnx h → C c → D c) : xsm D h h' := by
  refine ⟨a.1, a.2.1, fun c hc => ?_⟩
  obtain ⟨a1, a2, a3, a4⟩ := a.2.2 c hc
  exact ⟨a1, a2, a3, fun hn => a4 (fun z => hn (hCD c hc z))⟩
theorem xsm.st {C : Int → Prop} {h0 h : XH} (e : xsm C h0 h) {a k v : Int} (hk : 0 ≤ k) (ha : C a ∨ xnx h0 ≤ a) : xsm C h0 (xst h a k v) := by
  refine ⟨e.1, e.2.1, fun c hc => ?_⟩
  obtain ⟨a1, a2, a3, a4⟩ := e.2.2 c hc
  refine ⟨a1, a2, ?_, fun hn j => ?_⟩
  · rw [xpl_st, if_neg (by omega)]; exact a3
  · rw [xpl_st, if_neg ?_]
    · exact a4 hn j
    · rintro ⟨rfl, -⟩
      rcases ha with z | z
      · exact hn z
      · omega
theorem xsm.up {C : Int → Prop} {h0 h : XH} (e : xsm C h0 h) {a : Int} {f : Int → Int} (hf : f (-1) = xpl h a (-1)) (ha : C a ∨ xnx h0 ≤ a) : xsm C h0 (xup h a f) := by
  refine ⟨e.1, e.2.1, fun c hc => ?_⟩
  obtain ⟨a1, a2, a3, a4⟩ := e.2.2 c hc
  refine ⟨a1, a2, ?_, fun hn j => ?_⟩
  · rw [xpl_up]
    split
    · rename_i z; subst z; rw [hf]; exact a3
    · exact a3
  · rw [xpl_up, if_neg ?_]
    · exact a4 hn j
    · rintro rfl
      rcases ha with z | z
      · exact hn z
      · omega
theorem xsm.mk {C : Int → Prop} {h0 h : XH} (e : xsm C h0 h) {t : Nat} {n : Int} {c : Int → Int} (hn : 0 ≤ n) : xsm C h0 (xmk h t n c) := by
  refine ⟨by have := e.1; rw [xnx_mk]; omega, by have := e.2.1; rw [xsl_mk]; omega, fun b hb => ?_⟩
  obtain ⟨a1, a2, a3, a4⟩ := e.2.2 b hb
  have hb2 : b ≠ xnx h := by have := e.1; omega
  exact ⟨by rw [xtg_mk, if_neg hb2]; exact a1, by rw [xln_mk, if_neg hb2]; exact a2, by rw [xpl_mk, if_neg hb2]; exact a3, fun hn k => by rw [xpl_mk, if_neg hb2]; exact a4 hn k⟩
/-- a mark on a new cell -/
theorem xsm.gh {C : Int → Prop} {h0 h : XH} (e : xsm C h0 h) {a v : Int} (ha : xnx h0 ≤ a) : xsm C h0 (xst h a (-1) v) := by
  refine ⟨e.1, e.2.1, fun c hc => ?_⟩
  obtain ⟨a1, a2, a3, a4⟩ := e.2.2 c hc
  exact ⟨a1, a2, by rw [xpl_st, if_neg (by omega)]; exact a3, fun hn j => by rw [xpl_st, if_neg (by omega)]; exact a4 hn j⟩
theorem xsm.nx {C : Int → Prop} {h h' : XH} (e : xsm C h h') : xnx h ≤ xnx h' := e.1
theorem xsm.tg {C : Int → Prop} {h h' : XH} (e : xsm C h h') {a : Int} (ha : a < xnx h) : xtg h' a = xtg h a := (e.2.2 a ha).1
theorem xsm.ln {C : Int → Prop} {h h' : XH} (e : xsm C h h') {a : Int} (ha : a < xnx h) : xln h' a = xln h a := (e.2.2 a ha).2.1
theorem xsm.mkd {C : Int → Prop} {h h' : XH} (e : xsm C h h') {a : Int} (ha : a < xnx h) : xpl h' a (-1) = xpl h a (-1) := (e.2.2 a ha).2.2.1
theorem xsm.pl {C : Int → Prop} {h h' : XH} (e : xsm C h h') {a : Int} (ha : a < xnx h) (hn : ¬ C a) (k : Int) : xpl h' a k = xpl h a k := (e.2.2 a ha).2.2.2 hn k
/-- the prover's mark may be set at any time -/
theorem xHR.gh {G : XG} {h : XH} {H : Heap} (hH : xHR G h H) {r v : Int} (hr : 0 ≤ r) : xHR G (xst h r (-1) v) H := by
  have e : ∀ a : Int, ∀ j : Nat, xpl (xst h r (-1) v) a (j : Int) = xpl h a (j : Int) := fun a j => by rw [xpl_st, if_neg (by omega)]
  have key : ∀ (q : Nat) (t : Nat) (n : Int) (a : Int), xCR G H q t n (xpl h a) → xCR G H q t n (xpl (xst h r (-1) v) a) := by
    intro q t n a hc
    refine ⟨fun ht => ?_, fun h1 h2 => ?_⟩
    · obtain ⟨r1, b1, b2, b3⟩ := hc.1 ht
      refine ⟨r1, b1, ?_, fun k hk => by rw [e]; exact b3 k hk⟩
      have e2 : (fun k : Nat => xcv G (xfty t k, xpl (xst h r (-1) v) a (k : Int))) = fun k : Nat => xcv G (xfty t k, xpl h a (k : Int)) := by funext k; rw [e]
      rw [e2]
      exact b2
    · obtain ⟨b0, b1, b2, b3⟩ := hc.2 h1 h2
      refine ⟨b0, b1, ?_, fun j hj => by rw [e]; exact b3 j hj⟩
      have e2 : (fun j : Nat => xcv G (xaty t, xpl (xst h r (-1) v) a (j : Int))) = fun j : Nat => xcv G (xaty t, xpl h a (j : Int)) := by funext j; rw [e]
      rw [e2]
      exact b2
  have keyw : ∀ (q : Nat) (t : Nat) (n : Int) (a : Int), xCRw G H q t n (xpl h a) → xCRw G H q t n (xpl (xst h r (-1) v) a) := by
    intro q t n a hc
    refine ⟨fun ht => ?_, fun h1 h2 => ?_⟩
    · obtain ⟨r1, b1, b2, b3⟩ := hc.1 ht
      refine ⟨r1, b1, ?_, fun k hk => by rw [e]; exact b3 k hk⟩
      have e2 : (fun k : Nat => xcv G (xfty t k, xpl (xst h r (-1) v) a (k : Int))) = fun k : Nat => xcv G (xfty t k, xpl h a (k : Int)) := by funext k; rw [e]
      rw [e2]
      exact b2
    · obtain ⟨b0, b1, b2, b3⟩ := hc.2 h1 h2
      refine ⟨b0, b1, ?_, fun j hj => by rw [e]; exact b3 j hj⟩
      have e2 : (fun j : Nat => xcv G (xaty t, xpl (xst h r (-1) v) a (j : Int))) = fun j : Nat => xcv G (xaty t, xpl h a (j : Int)) := by funext j; rw [e]
      rw [e2]
      exact b2
  obtain ⟨h1, h2, h3, h4, h5, h6, h7, h8, h9, h10⟩ := hH
  refine ⟨h1, h2, h3, h4, h5, h6, fun a ha => key _ _ _ _ (h7 a ha), h8, h9, fun j hj => ?_⟩
  obtain ⟨b1, b2⟩ := h10 j hj
  exact ⟨b1, keyw _ _ _ _ b2⟩
theorem xwp_gh {G : XG} {M : XM} {d pc : Nat} {L S : List XV} {h : XH} {Q : XV → XH → Prop} {X : Nat → XH → Prop} {r v : Int} (hr : 0 ≤ r) (k : xwp G M d pc L S (xst h r (-1) v) Q X) : xwp G M d pc L S h Q X :=
  fun p e R s m args below meth c H locs ls F hH hL hS hz hy hlo => k p e R s m args below meth c H locs ls F (hH.gh hr) hL hS hz hy hlo
theorem xsm.fix {C : Int → Prop} {h h' : XH} (e : xsm C h h') (F : xFix h) (hC : ∀ q ∈ xfP, ¬ C q.1 ∨ xpl h' q.1 q.2.1 = q.2.2) : xFix h' := by
  refine ⟨fun q hq => ?_, fun q hq => ?_, by have := e.1; have := F.2.2; omega⟩
  · have h1 := xfT_lt q hq
    have h2 := F.2.2
    rw [e.tg (by omega), e.ln (by omega)]
    exact F.1 q hq
  · rcases hC q hq with z | z
    · have h1 := xfP_lt q hq
      have h2 := F.2.2
      rw [e.pl (by omega) z]
      exact F.2.1 q hq
    · exact z
end
