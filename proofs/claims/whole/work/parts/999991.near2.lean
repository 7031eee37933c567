/-! ===== near2 ===== -/
section
/-! the model looks along a field for near words: whole -/
/-- only the fits of a cell and the scratch of near words are written -/
def SW (h h' : XH) (c : Int) : Prop := xFix h' ∧ xsm (fun a => a = 53 ∨ a = 81 ∨ a = 82 ∨ a = 87 ∨ a = 88) h h' ∧ (∀ a k : Int, ((a ≠ 81 ∧ a ≠ 82) ∨ k ≠ c) → (a ≠ 53 ∨ k ≠ 35) → a ≠ 87 → a ≠ 88 → xpl h' a k = xpl h a k) ∧ xnx h' = xnx h ∧ xsl h' = xsl h
theorem SW.rfl {h : XH} {c : Int} (F : xFix h) : SW h h c := ⟨F, xsm.refl h, fun _ _ _ _ _ _ => _root_.rfl, _root_.rfl, _root_.rfl⟩
theorem SW.trans {a b e : XH} {c : Int} (x : SW a b c) (y : SW b e c) : SW a e c := ⟨y.1, x.2.1.trans y.2.1, fun i k z1 z2 z3 z4 => (y.2.2.1 i k z1 z2 z3 z4).trans (x.2.2.1 i k z1 z2 z3 z4), y.2.2.2.1.trans x.2.2.2.1, y.2.2.2.2.trans x.2.2.2.2⟩
theorem SK.sw {h h' : XH} {c : Int} (K : SK h h' c) : SW h h' c := ⟨K.1, K.2.1.mono (fun a _ w => by rcases w with w | w <;> simp [w]), fun a k z1 _ _ _ => K.2.2.1 a k z1, K.2.2.2.1, K.2.2.2.2⟩
theorem SW.mqr {h h' : XH} {c q : Int} {D : DR} (K : SW h h' c) (A : MQR h q D) : MQR h' q D := by
  have b := A.2.1.1
  exact A.of K.2.1 (K.2.2.1 53 19 (Or.inl (by decide)) (Or.inr (by decide)) (by decide) (by decide)) (fun c x y => by omega)
theorem SW.wor {h h' : XH} {c x : Int} {row : List Int} (K : SW h h' c) (W : WoR h x row) : WoR h' x row := ⟨W.1, fun k hk => by
  rw [K.2.2.1 62 _ (Or.inl (by decide)) (Or.inl (by decide)) (by decide) (by decide)]; exact W.2 k hk⟩
/-- the counts of near words in a window -/
def NS (h : XH) (B : List (Int × Int)) (W : List Int) : Prop := (∀ j : Nat, j < B.length → xpl h 87 j = nbW B (B.map (·.1)) j ∧ xpl h 88 j = nbW B W j) ∧ xpl h 53 35 = laF B W
theorem nbW_le (B : List (Int × Int)) (W : List Int) (j : Nat) : nbW B W j ≤ W.length := List.countP_le_length
theorem suF_le {f : Nat → Int} {m : Int} (m0 : 0 ≤ m) : ∀ n : Nat, (∀ i, i < n → f i ≤ m) → suF f n ≤ n * m
  | 0, _ => by show (0 : Int) ≤ ((0 : Nat) : Int) * m; omega
  | n + 1, h => by
    show suF f n + f n ≤ ((n + 1 : Nat) : Int) * m
    have := suF_le m0 n (fun i hi => h i (by omega))
    have := h n (by omega)
    have e : ((n + 1 : Nat) : Int) * m = (n : Int) * m + m := by rw [Int.natCast_succ, Int.add_mul, Int.one_mul]
    omega
theorem laF_rng {B : List (Int × Int)} {W : List Int} (h : B.length ≤ 40) : 0 ≤ laF B W ∧ laF B W ≤ 1600 := by
  refine ⟨(suF_0 _ (fun i _ => by show 0 ≤ max 0 _; omega)).1, ?_⟩
  have a := suF_le (f := fun j => max 0 ((nbW B (B.map (·.1)) j : Int) - nbW B W j)) (m := 40) (by decide) B.length (fun i _ => by
    show max 0 _ ≤ 40
    have := nbW_le B (B.map (·.1)) i
    rw [List.length_map] at this
    omega)
  have a : laF B W ≤ (B.length : Int) * 40 := a
  omega
theorem suF_z : ∀ n : Nat, suF (fun _ => 0) n = 0
  | 0 => rfl
  | n + 1 => by show suF (fun _ => 0) n + 0 = 0; rw [suF_z n]; rfl
theorem suF_nb {B : List (Int × Int)} : ∀ W : List Int, (∀ x ∈ W, ixB B x 0 ≠ -1) → suF (fun j => (nbW B W j : Int)) B.length = W.length
  | [], _ => by
    have e : suF (fun j => (nbW B [] j : Int)) B.length = suF (fun _ => 0) B.length := suF_eq _ (fun i _ => rfl)
    rw [e, suF_z]; rfl
  | x :: W, h => by
    have ih := suF_nb W (fun y hy => h y (List.mem_cons_of_mem _ hy))
    rcases ixB_at (B := B) (x := x) with z | ⟨j, j1, j2, -⟩
    · exact absurd z (h x (List.mem_cons_self))
    · have s := suF_one (f := fun i => (nbW B (x :: W) i : Int)) (g := fun i => (nbW B W i : Int)) (j := j) (fun i hi => by
        show ((nbW B (x :: W) i : Nat) : Int) = (nbW B W i : Nat)
        rw [nbW_cons, if_neg (by rw [j2]; omega), Nat.add_zero]) B.length j1
      rw [s, ih, nbW_cons, if_pos j2, List.length_cons]
      omega
theorem ixB_mem {B : List (Int × Int)} {v : Int × Int} (hv : v ∈ B) : ixB B v.1 0 ≠ -1 := by
  have no : ∀ (l : List (Int × Int)) (k : Nat), v ∈ l → ixB l v.1 k ≠ -1 := by
    intro l
    induction l with
    | nil => intro k hm; cases hm
    | cons a r ih =>
      intro k hm y
      have y : (if a.1 = v.1 then (k : Int) else ixB r v.1 (k + 1)) = -1 := y
      by_cases w : a.1 = v.1
      · rw [if_pos w] at y; omega
      · rw [if_neg w] at y
        rcases List.mem_cons.mp hm with x | x
        · rw [x] at w; exact w rfl
        · exact ih (k + 1) x y
  exact no B 0 hv
/-- of nothing all words are lacking -/
theorem laF_nil (B : List (Int × Int)) : laF B [] = B.length := by
  have a := suF_nb (B := B) (B.map (·.1)) (fun x hx => by
    obtain ⟨v, v1, v2⟩ := List.mem_map.mp hx
    rw [← v2]; exact ixB_mem v1)
  rw [List.length_map] at a
  rw [← a]
  refine suF_eq _ (fun i _ => ?_)
  show max 0 ((nbW B (B.map (·.1)) i : Int) - ((0 : Nat) : Int)) = (nbW B (B.map (·.1)) i : Nat)
  omega
/-- a word comes -/
theorem s_turn_in {G : XG} {d : Nat} {h : XH} {Q : XV → XH → Prop} {X : Nat → XH → Prop} {x c : Int} {B : List (Int × Int)} {W : List Int} (F : xFix h) (N : NS h B W) (bl : B.length ≤ 40) (wl : W.length ≤ 12000)
    (hq : ∀ h', SW h h' c → NS h' B (W ++ [x]) → (∀ a k : Int, a = 81 ∨ a = 82 → xpl h' a k = xpl h a k) → Q xN h') : xwp G m_M_turn (d + 1) 0 [xR 53, xI (ixB B x 0), xI 1] [] h Q X := by
  obtain ⟨n1, n2⟩ := N
  have lr := laF_rng (B := B) (W := W) bl
  have rg := ixB_rng B x 0
  refine s_M_turn F (by omega) (Or.inl rfl) n2 (by omega) (by omega) (fun k0 => ?_) (fun h' F' S' o' p88 p35 nn ll => ?_)
  · rcases ixB_at (B := B) (x := x) with z | ⟨j, j1, j2, -⟩
    · omega
    · rw [j2, (n1 j j1).2]
      have := nbW_le B W j
      omega
  · have sw : SW h h' c := ⟨F', S'.mono (fun a _ w => by rcases w with w | w <;> simp [w]), fun a k z1 z2 z3 z4 => o' a k z2 (Or.inl z4), nn, ll⟩
    refine hq h' sw ?_ (fun a k w => o' a k (Or.inl (by omega)) (Or.inl (by omega)))
    rcases ixB_at (B := B) (x := x) with z | ⟨j, j1, j2, -⟩
    · rw [if_pos z] at p35
      refine ⟨fun i hi => ⟨?_, ?_⟩, by rw [p35, (laF_no z).1]⟩
      · rw [o' 87 i (Or.inl (by decide)) (Or.inl (by decide))]; exact (n1 i hi).1
      · rw [o' 88 i (Or.inl (by decide)) (Or.inr (by omega)), nbW_app, if_neg (by omega)]; exact (n1 i hi).2
    · refine ⟨fun i hi => ⟨?_, ?_⟩, ?_⟩
      · rw [o' 87 i (Or.inl (by decide)) (Or.inl (by decide))]; exact (n1 i hi).1
      · by_cases y : i = j
        · subst y
          have p := p88 (by omega)
          rw [j2] at p
          rw [p, nbW_app, if_pos j2, (n1 i hi).2]
          omega
        · rw [o' 88 i (Or.inl (by decide)) (Or.inr (by omega)), nbW_app, if_neg (by omega)]; exact (n1 i hi).2
      · rw [p35, if_neg (by omega), laF_in j2 j1, j2, (n1 j j1).1, (n1 j j1).2]
        by_cases y : nbW B W j < nbW B (B.map (·.1)) j
        · rw [if_pos y, if_pos (Or.inl ⟨by decide, by omega⟩)]
        · rw [if_neg y, if_neg (by omega)]
/-- a word goes -/
theorem s_turn_out {G : XG} {d : Nat} {h : XH} {Q : XV → XH → Prop} {X : Nat → XH → Prop} {x c : Int} {B : List (Int × Int)} {W : List Int} (F : xFix h) (N : NS h B (x :: W)) (bl : B.length ≤ 40) (wl : W.length ≤ 12000)
    (hq : ∀ h', SW h h' c → NS h' B W → (∀ a k : Int, a = 81 ∨ a = 82 → xpl h' a k = xpl h a k) → Q xN h') : xwp G m_M_turn (d + 1) 0 [xR 53, xI (ixB B x 0), xI (-1)] [] h Q X := by
  obtain ⟨n1, n2⟩ := N
  have lr := laF_rng (B := B) (W := x :: W) bl
  have rg := ixB_rng B x 0
  refine s_M_turn F (by omega) (Or.inr rfl) n2 (by omega) (by omega) (fun k0 => ?_) (fun h' F' S' o' p88 p35 nn ll => ?_)
  · rcases ixB_at (B := B) (x := x) with z | ⟨j, j1, j2, -⟩
    · omega
    · rw [j2, (n1 j j1).2]
      have := nbW_le B (x :: W) j
      rw [List.length_cons] at this
      omega
  · have sw : SW h h' c := ⟨F', S'.mono (fun a _ w => by rcases w with w | w <;> simp [w]), fun a k z1 z2 z3 z4 => o' a k z2 (Or.inl z4), nn, ll⟩
    refine hq h' sw ?_ (fun a k w => o' a k (Or.inl (by omega)) (Or.inl (by omega)))
    rcases ixB_at (B := B) (x := x) with z | ⟨j, j1, j2, -⟩
    · rw [if_pos z] at p35
      refine ⟨fun i hi => ⟨?_, ?_⟩, by rw [p35, (laF_no z).2]⟩
      · rw [o' 87 i (Or.inl (by decide)) (Or.inl (by decide))]; exact (n1 i hi).1
      · have c := (n1 i hi).2
        rw [nbW_cons, if_neg (by omega)] at c
        rw [o' 88 i (Or.inl (by decide)) (Or.inr (by omega))]; exact c
    · refine ⟨fun i hi => ⟨?_, ?_⟩, ?_⟩
      · rw [o' 87 i (Or.inl (by decide)) (Or.inl (by decide))]; exact (n1 i hi).1
      · have c := (n1 i hi).2
        by_cases y : i = j
        · subst y
          have p := p88 (by omega)
          rw [j2] at p
          rw [nbW_cons, if_pos j2] at c
          rw [p, c]
          omega
        · rw [nbW_cons, if_neg (by omega)] at c
          rw [o' 88 i (Or.inl (by decide)) (Or.inr (by omega))]; exact c
      · rw [p35, if_neg (by omega), laF_out (W := W) j2 j1, j2, (n1 j j1).1, (n1 j j1).2]
        by_cases y : nbW B (x :: W) j ≤ nbW B (B.map (·.1)) j
        · rw [if_pos y, if_pos (Or.inr ⟨by decide, by omega⟩)]; omega
        · rw [if_neg y, if_neg (by omega)]

end
