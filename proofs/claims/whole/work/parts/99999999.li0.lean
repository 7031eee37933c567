/-! ===== li0 ===== -/
section
/-! the law's first state -/
def ghs (h : XH) : List (Int × Int) → XH
  | [] => h
  | q :: l => ghs (xst h q.1 (-1) q.2) l
theorem xwp_ghs {G : XG} {M : XM} {d pc : Nat} {L S : List XV} {Q : XV → XH → Prop} {X : Nat → XH → Prop} : ∀ (l : List (Int × Int)) (h : XH), (∀ q ∈ l, 0 ≤ q.1) → xwp G M d pc L S (ghs h l) Q X → xwp G M d pc L S h Q X
  | [], _, _, k => k
  | q :: l, h, hl, k => xwp_gh (hl q (List.mem_cons_self ..)) (xwp_ghs l _ (fun x hx => hl x (List.mem_cons_of_mem _ hx)) k)
def xgl : List (Int × Int) := [(16, 0), (0, 0), (1, 0), (5, 0), (6, 0), (7, 0), (12, 0), (32, 0), (34, 0), (37, 0), (38, 0), (39, 0), (40, 0), (41, 0), (45, 0), (52, 0), (13, -11), (14, -12), (15, -13)]
def xKz : XH := ghs xK111 xgl
def s0 : CS := (([], [], [], [], 0), 0, ([], []))
theorem kz_fix : xFix xKz := ⟨by decide +kernel, by decide +kernel, by decide +kernel⟩
theorem kz_mark : ∀ n : Nat, n < 93 → xpl xKz (n : Int) (-1) = if n = 13 then -11 else if n = 14 then -12 else if n = 15 then -13 else 0 := by decide +kernel
theorem kz_mka : MKA xKz := by
  refine ⟨fun c h1 h2 => ?_, fun c h1 h2 => ?_⟩
  · have := kz_mark c.toNat (by omega)
    rw [if_neg (by omega), if_neg (by omega), if_neg (by omega)] at this
    rw [← this]
    congr 1
    omega
  · have := kz_mark c.toNat (by omega)
    rw [if_neg (by omega), if_neg (by omega), if_neg (by omega)] at this
    rw [← this]
    congr 1
    omega
theorem kz_al (a : Int) (h1 : 0 ≤ a ∧ a < xnx xKz ∧ xtg xKz a = 13 ∧ xpl xKz a 1 = 0) (h2 : xpl xKz a 0 = -103) : ALr xKz a [] := by
  refine ⟨⟨h1.1, h1.2.1, h1.2.2.1, h1.2.2.2, by decide⟩, ?_, Or.inl h2, (by intro i hi; exact absurd hi (Nat.not_lt_zero _)), (by intro e he; cases he)⟩
  rw [h2]
  decide +kernel
theorem kz_st : ∀ n : Nat, n < 60 → 0 ≤ xpl xKz 8 (n : Int) ∧ xpl xKz 8 (n : Int) ≤ 60 := by decide +kernel
theorem kz_row : ∀ n : Nat, n < 60 → xpl xKz 55 (n : Int) = n := by decide +kernel
theorem kz_tape : TapeR xKz [] := ⟨by decide +kernel, by decide, (by intro i hi; exact absurd hi (Nat.not_lt_zero _)), (by intro b hb; cases hb)⟩
theorem kz_store : StoreR xKz [] [] [] [] [] 0 := by
  refine ⟨⟨kz_al 6 (by decide +kernel) (by decide +kernel), kz_al 7 (by decide +kernel) (by decide +kernel), rfl, rfl, by decide, by decide⟩, (by intro i p t h; first | (simp at h; done) | cases h), (by intro i p t h; first | (simp at h; done) | cases h), by decide, ⟨by decide +kernel, by decide, (by intro i hi; exact absurd hi (Nat.not_lt_zero _)), fun i h1 h2 => ?_⟩, by decide +kernel⟩
  have := kz_st i.toNat (by omega)
  rw [show ((i.toNat : Nat) : Int) = i by omega] at this
  exact this
theorem kz_voc : VocR xKz [] := ⟨by unfold vok; decide +kernel, by decide +kernel, (by intro i e h; first | (simp at h; done) | cases h)⟩
theorem kz_q : QuR xKz 52 [] [] ([], []) [] := by
  refine ⟨by decide +kernel, ⟨⟨kz_al 52 (by decide +kernel) (by decide +kernel), by decide, rfl, by decide⟩, ⟨rfl, by decide, by decide, by decide⟩, (by intro i q ns h; first | (simp at h; done) | cases h), (by intro i q ns h; first | (simp at h; done) | cases h)⟩, fun _ => by decide +kernel, fun h => absurd h (Nat.not_lt_zero _)⟩
theorem kz_cir : CIR xKz s0 := by
  refine ⟨⟨kz_fix, kz_mka⟩, kz_tape, ⟨[], [], kz_store⟩, ⟨[], kz_voc⟩, by decide +kernel, ⟨52, [], [], kz_q⟩, ⟨[], kz_al 34 (by decide +kernel) (by decide +kernel), by decide⟩, by decide +kernel, ?_⟩
  refine ⟨⟨⟨rfl, (by intro x h; first | (simp at h; done) | cases h)⟩, by decide⟩, by decide, ⟨(by intro q ns n t h; first | (simp at h; done) | cases h), fun q q' ns ns' n h => by cases h⟩, by decide, (by intro t h; first | (simp at h; done) | cases h), (by intro t h; first | (simp at h; done) | cases h)⟩
theorem kz_mir : MIR xKz s0 := by
  refine ⟨⟨⟨by decide +kernel, by decide, (by intro i hi; exact absurd hi (Nat.not_lt_zero _)), (by intro b hb; cases hb)⟩, ⟨⟨fun i h1 h2 => ?_, fun i j h1 h2 h3 h4 e => ?_⟩, ⟨by decide +kernel, by decide, by decide +kernel, by decide, by decide +kernel⟩, (by intro i hi; exact absurd hi (Nat.not_lt_zero _)), (by intro x h; first | (simp at h; done) | cases h), by decide, (by intro i t h; first | (simp at h; done) | cases h)⟩, by decide +kernel⟩, Or.inl ⟨by decide +kernel, rfl⟩⟩
  · have := kz_row i.toNat (by omega)
    rw [show ((i.toNat : Nat) : Int) = i by omega] at this
    omega
  · have a := kz_row i.toNat (by omega)
    have b := kz_row j.toNat (by omega)
    rw [show ((i.toNat : Nat) : Int) = i by omega] at a
    rw [show ((j.toNat : Nat) : Int) = j by omega] at b
    omega
theorem kz_li : LI xKz s0 0 0 0 :=
  ⟨kz_cir, kz_mir, ⟨List.nodup_nil, 0, by decide, by decide⟩, by decide, ⟨Nat.le_refl _, fun h => absurd h (Nat.not_lt_zero _)⟩, by decide +kernel, by decide +kernel⟩
/-- the law's run on the first heap -/
theorem law_run {G : XG} {d : Nat} {Q : XV → XH → Prop} {X : Nat → XH → Prop} {n9 : Nat} {xs : Nat → Int32} {nm9 : String} {hq9 : List (Nat × Nat × Nat × Nat)} (SC : SCR G n9 xs) (hq : ∀ h, xFix h → Q (xI 1) h) : xwp G (m_W_law nm9 hq9) (d + 220) 0 [xR (-108), xZ, xZ, xZ, xZ, xZ, xZ, xZ, xZ] [] xH0 Q X := by
  refine law_start (xwp_ghs xgl _ (by decide +kernel) ?_)
  exact law_loop SC hq n9 xKz s0 0 0 0 0 kz_li rfl (by omega)

end
