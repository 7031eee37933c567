/-! ===== nearest ===== -/
section
/-! the words' table: how many different words, the nearest one -/
theorem CIR.voc {C : Int → Prop} {h h' : XH} {s : CS} {V' : List VE} (R : CIR h s) (F' : xFix h') (e : xsm C h h') (hC : ∀ c, C c → VOW h c ∨ CHW c) (VR' : VocR h' V') : CIR h' s ∧ xsm (CLW h) h h' := by
  obtain ⟨⟨F, M⟩, T, ⟨bp, fp, S⟩, -, w, ⟨a, qa, pa, QR⟩, ⟨es, A, hes⟩, z10, W⟩ := R
  have hnx := F.nx
  have fx : ∀ c, C c → c < 0 ∨ (12 ≤ c ∧ c ≤ 31) ∨ 93 ≤ c := fun c hc => by
    rcases hC c hc with v | v
    · have := VOW.fx M v; omega
    · unfold CHW at v; omega
  have tg : ∀ c, C c → (12 ≤ c ∧ c ≤ 31) ∨ ((c < 0 ∨ 93 ≤ c) ∧ ((xtg h c = 101 ∧ xpl h c (-1) = -11) ∨ xtg h c = 100)) := fun c hc => by
    have := fx c hc
    rcases hC c hc with v | v
    · unfold VOW at v; omega
    · unfold CHW at v; omega
  have lo : ∀ c k, 0 ≤ c → c < 93 → ¬ (12 ≤ c ∧ c ≤ 31) → xpl h' c k = xpl h c k := fun c k c0 c1 c2 => e.pl (by omega) (fun y => by have := fx c y; omega) k
  have n9 : ∀ c, C c → xtg h c ≠ 110 ∧ xtg h c ≠ 9 ∧ xtg h c ≠ 4 ∧ xtg h c ≠ 5 ∧ (52 ≤ c → xtg h c ≠ 13) ∧ (93 ≤ c → xtg h c = 101 → xpl h c (-1) ≠ 0) := fun c y => by
    rcases tg c y with v | v
    · have t := fxT F (c := c) (by omega) (by omega)
      exact ⟨t.1, fun z => by have := t.2.1 z; omega, fun z => by have := t.2.2.2.1 z; omega, fun z => by have := t.2.2.2.2 z; omega, fun z => by omega, fun z => by omega⟩
    · refine ⟨by omega, by omega, by omega, by omega, fun _ => by omega, fun _ z => by omega⟩
  refine ⟨⟨⟨F', M.frame F e⟩, T.keep (lo 1 3 (by decide) (by decide) (by decide)) (fun k => lo 2 k (by decide) (by decide) (by decide)), ⟨bp, fp, S.frame F e (fun c v y => ?_)⟩, ⟨V', VR'⟩, (lo 0 5 (by decide) (by decide) (by decide)).trans w, ⟨a, qa, pa, QR.frame F e (fun y => by have := fx 0 y; omega) (fun c c1 c2 y => by have := fx c y; omega) (fun c _ c2 y => by have := n9 c y; omega) (fun c v y => ?_)⟩, ⟨es, A.frame F e (fun c v y => by
      rcases v with v | v
      · have := fx c y; omega
      · exact (n9 c y).1 v.1), hes⟩, (lo 35 10 (by decide) (by decide) (by decide)).trans z10, W⟩, CLW.of e (fun c hc => ?_)⟩
  · have := n9 c y
    have := fx c y
    unfold STF ALC at v
    omega
  · have := n9 c y
    unfold DRC at v
    omega
  · rcases hC c hc with v | v
    · exact VOW.cow v (VOW.far M v)
    · unfold CHW at v
      exact Or.inl (by omega)
theorem VocR.nil {h : XH} {V : List VE} (R : VocR h V) (F : xFix h) : VocR (xst h 12 3 0) [] ∧ vlen (xst h 12 3 0) = vlen h ∧ xsm (VOW h) h (xst h 12 3 0) := by
  obtain ⟨p0, r1, r2⟩ := R
  obtain ⟨n1, n2, n3, n4, n5, n6⟩ := p0.ne
  have k12 : ∀ k, k ≠ 3 → xpl (xst h 12 3 0) 12 k = xpl h 12 k := fun k hk => xpl_ok hk
  refine ⟨⟨p0.keep (Int.le_refl _) k12 (fun k hk => ⟨rfl, rfl, by rw [xpl_oa (by rcases hk with z | z | z <;> rw [z] <;> assumption)]⟩) (by rw [xpl_hit]; have := p0.2.2.2.2.2.2.2; exact ⟨Int.le_refl _, by omega⟩), by rw [xpl_hit]; rfl, fun i e he => by rw [List.getElem?_nil] at he; cases he⟩, ?_, (xsm.refl h).st (by decide) (Or.inl (Or.inl rfl))⟩
  unfold vlen
  rw [k12 0 (by decide)]
  rfl
/-- the words of some texts' field -/
def wvs (s : CS) (fl st : Int) : Nat → List VE
  | 0 => []
  | k + 1 => noteRowV (wvs s fl st k) (rwT (fA s (st + k)).1 fl) k
def cWordsIn (s : CS) (x f : Int) : (Int × Int) × CS := (if (0 ≤ x ∧ x < (zC s).length) ∧ 0 ≤ f ∧ f < 2 then (0, (wvs s f (stA (zC s) x) (szA (zC s) x).toNat).length) else (3, 0), s)
theorem VOB.pot {h h' : XH} (b : VOB h h') : nxP h' ≤ nxP h ∧ slP h' ≤ slP h := ⟨b.1, b.2.1⟩
theorem s_B_wordsIn {G : XG} {d : Nat} {h : XH} {Q : XV → XH → Prop} {X : Nat → XH → Prop} {s : CS} {x f n9 s9 : Int} (R : CIR h s) (M : Room h n9 s9) (hn : 0 ≤ n9) (hs : 0 ≤ s9) (q : CAN Q X xI h (cWordsIn s x f) n9 s9) : xwp G m_B_wordsIn (d + 8) 0 [xR 0, xI x, xI f, xZ, xZ] [] h Q X := by
  obtain ⟨-, -, e3, e4, -⟩ := R.eqs
  have hr := R.room M
  have hl60 := R.wf.1.2
  unfold cWordsIn at q
  have no : ¬ ((0 ≤ x ∧ x < (zC s).length) ∧ 0 ≤ f ∧ f < 2) → ∀ F9 : xFix (xmk h 300 6 (fun _ => 0)), X 2 (xmk h 300 6 (fun _ => 0)) := fun z F9 => by
    rw [if_neg z] at q
    exact CAN.thr (k := 2) q R hn hs F9
  have loop : (0 ≤ x ∧ x < (zC s).length) ∧ 0 ≤ f ∧ f < 2 → ∀ (m i : Nat) (h2 : XH) (n : Int), i + m = (szA (zC s) x).toNat → CIR h2 s → xsm (CLW h) h h2 → nxP h2 ≤ nxP h → slP h2 ≤ slP h → VocR h2 (wvs s f (stA (zC s) x) i) → SortV (wvs s f (stA (zC s) x) i) → CntV (wvs s f (stA (zC s) x) i) n → 0 ≤ n → n ≤ 200 * i → (wvs s f (stA (zC s) x) i).length ≤ 200 * i → xwp G m_B_wordsIn (d + 8) 29 [xR 0, xI x, xI f, xI (stA (zC s) x), xI i] [] h2 Q X := by
    intro hok m
    rw [if_pos hok] at q
    have w := R.wf.1.1.pl hok.1.1 hok.1.2
    induction m with
    | zero =>
      intro i h2 n e R2 L2 n2 l2 VR SV CV n0 n1 vl
      have e3' := R2.eqs.2.2.1
      have es := VR.2.1
      refine v_B_wordsIn_29 R2.fx ?_
      refine ⟨?_, ?_⟩
      · first | exact R2.ok | exact ⟨by omega, by omega⟩
      · refine ⟨fun q1 => ?_, fun q1 => ?_⟩
        · rw [es, show i = (szA (zC s) x).toNat by omega]
          exact q.1 rfl h2 R2 L2 (by omega) (by omega)
        · refine ⟨?_, ?_⟩
          · first | exact R2.ok | exact ⟨by omega, by omega⟩
          · rw [e3'] at q1; omega
    | succ m ih =>
      intro i h2 n e R2 L2 n2 l2 VR SV CV n0 n1 vl
      have e3' := R2.eqs.2.2.1
      have hrow := R2.row (p := stA (zC s) x + i) (by omega) (by omega) f
      have hrl := hrow.2.2.2.2
      refine v_B_wordsIn_29 R2.fx ?_
      refine ⟨?_, ?_⟩
      · first | exact R2.ok | exact ⟨by omega, by omega⟩
      · refine ⟨fun q1 => ?_, fun q1 => ?_⟩
        · rw [e3'] at q1; omega
        · refine ⟨?_, ?_⟩
          · first | exact R2.ok | exact ⟨by omega, by omega⟩
          · have M2 : Room h2 0 0 := ⟨by have := M.1; omega, by have := M.2; omega⟩
            refine s_Voc_noteRow R2.fx VR SV CV n0 (by omega) (by omega) (M2.vo (Int.le_refl _) (Int.le_refl _)) hrow (fun h3 F3 S3 B3 VR3 SV3 CV3 => ?_)
            obtain ⟨R3, L3⟩ := R2.voc F3 S3 (fun c hc => Or.inl hc) VR3
            have pot := B3.pot
            have ln := noteRowV_len (rwT (fA s (stA (zC s) x + i)).1 f) i (wvs s f (stA (zC s) x) i)
            refine v_B_wordsIn_66 F3 ?_
            refine ⟨?_, ?_⟩
            · exact ⟨by omega, by omega⟩
            · exact ih (i + 1) h3 _ (by omega) R3 (CLW.trans L2 L3) (by omega) (by omega) VR3 SV3 CV3 (by omega) (by omega) (by show (noteRowV _ _ _).length ≤ _; omega)
  have ok0 : stok (xst h 12 3 0) ∧ ∀ F9 : xFix (xst h 12 3 0), CIR (xst h 12 3 0) s ∧ xsm (CLW h) h (xst h 12 3 0) ∧ VocR (xst h 12 3 0) [] ∧ vlen (xst h 12 3 0) = vlen h := by
    obtain ⟨V, VR⟩ := R.2.2.2.1
    obtain ⟨v1, v2, v3⟩ := VR.nil R.fx
    have key : ∀ F9 : xFix (xst h 12 3 0), CIR (xst h 12 3 0) s ∧ xsm (CLW h) h (xst h 12 3 0) ∧ VocR (xst h 12 3 0) [] ∧ vlen (xst h 12 3 0) = vlen h := fun F9 => by
      obtain ⟨a, b⟩ := R.voc F9 v3 (fun c hc => Or.inl hc) v1
      exact ⟨a, b, v1, v2⟩
    have F9 : xFix (xst h 12 3 0) := R.fx.stT (t := 10) (by decide) (ft_12 R.fx) (by decide +kernel)
    exact ⟨(key F9).1.ok, key⟩
  refine v_B_wordsIn_0 R.fx ?_
  refine ⟨fun q1 => ?_, fun q1 => ?_⟩
  · refine ⟨?_, ?_⟩
    · first | exact ok0.1 | omega
    · refine ⟨?_, ?_⟩
      · first | exact ok0.1 | omega
      · intro F9
        (rw [e4] at *; exact no (by omega) F9)
  · refine ⟨fun q2 => ?_, fun q2 => ?_⟩
    · refine ⟨fun q3 => ?_, fun q3 => ?_⟩
      · refine ⟨?_, ?_⟩
        · first | exact ok0.1 | omega
        · refine ⟨?_, ?_⟩
          · first | exact ok0.1 | omega
          · intro F9
            (rw [e4] at *; exact no (by omega) F9)
      · refine ⟨fun q4 => ?_, fun q4 => ?_⟩
        · refine ⟨?_, ?_⟩
          · first | exact ok0.1 | omega
          · intro F9
            obtain ⟨R1, L1, V1, v1⟩ := ok0.2 F9
            rw [e4] at q2
            rw [R1.eqs.2.2.1]
            refine loop ⟨⟨by omega, q2⟩, by omega, q4⟩ (szA (zC s) x).toNat 0 _ 0 (by omega) R1 L1 ?_ ?_ V1 (fun i j a b _ h1 _ => by rw [show wvs s f (stA (zC s) x) 0 = [] from rfl, List.getElem?_nil] at h1; cases h1) (fun e he => absurd he List.not_mem_nil) (Int.le_refl _) (by omega) (by show 0 ≤ _; omega)
            · unfold nxP; rw [v1]; show xnx h - _ ≤ _; omega
            · unfold slP; rw [v1]; show xsl h - _ ≤ _; omega
        · refine ⟨?_, ?_⟩
          · first | exact ok0.1 | omega
          · refine ⟨?_, ?_⟩
            · first | exact ok0.1 | omega
            · intro F9
              (rw [e4] at *; exact no (by omega) F9)
    · refine ⟨?_, ?_⟩
      · first | exact ok0.1 | omega
      · refine ⟨?_, ?_⟩
        · first | exact ok0.1 | omega
        · intro F9
          (rw [e4] at *; exact no (by omega) F9)
/-- the words of all texts of segments -/
def nvs (s : CS) : Nat → List VE
  | 0 => []
  | k + 1 => noteRowV (noteRowV (nvs s k) (rwT (fA s k).1 0) k) (rwT (fA s k).1 1) k
def nvA (s : CS) : List VE := nvs s (fC s).length
def nvW (s : CS) : Int := wdV (nvA s) (nrV (nvA s) (wC s))
def cNearest (s : CS) : (Int × Int) × CS := if (nvA s).length = 0 then ((0, -1), s) else ((0, dst (wC s) (nvW s)), (s.1, nvW s, s.2.2))
theorem noteRowV_mem {ws : List Int} {t : Int} (P : Int → Prop) (hw : ∀ w ∈ ws, w ≠ -1 → P w) : ∀ V : List VE, (∀ e ∈ V, P e.1) → ∀ e ∈ noteRowV V ws t, P e.1 := by
  induction ws with
  | nil => intro V h e he; exact h e he
  | cons w r ih =>
    intro V h e he
    refine ih (fun x hx => hw x (List.mem_cons_of_mem _ hx)) (if w = -1 then V else noteV V w t) (fun e2 he2 => ?_) e he
    by_cases z : w = -1
    · rw [if_pos z] at he2; exact h e2 he2
    · rw [if_neg z] at he2
      have pw := hw w (List.mem_cons_self ..) z
      have ins : ∀ e3 ∈ insV V w t, P e3.1 := fun e3 h3 => by
        unfold insV at h3
        rcases List.mem_append.mp h3 with y | y
        · exact h e3 (List.mem_of_mem_take y)
        · rcases List.mem_cons.mp y with y | y
          · rw [y]; exact pw
          · exact h e3 (List.mem_of_mem_drop y)
      unfold noteV at he2
      split at he2
      · split at he2
        · split at he2
          · exact h e2 he2
          · rcases List.mem_or_eq_of_mem_set he2 with y | y
            · exact h e2 y
            · rw [y]; exact pw
        · exact ins e2 he2
      · exact ins e2 he2
theorem nvs_ok {s : CS} (W : CWF s) : ∀ k : Nat, k ≤ (fC s).length → ∀ e ∈ nvs s k, 0 < e.1 ∧ e.1 < 6582952005840035281
  | 0, _, e, he => absurd he List.not_mem_nil
  | k + 1, hk, e, he => by
    have ih := nvs_ok W k (by omega)
    have hm : fA s k ∈ fC s := List.mem_of_getElem? (fA_at (s := s) (i := k) (by omega))
    have tw := W.2.2.2.2.2 _ hm
    have pr : ∀ ws : List Int, (∀ w ∈ ws, WdOK w) → ∀ w ∈ ws, w ≠ -1 → 0 < w ∧ w < 6582952005840035281 := fun ws h w hw hne => by
      rcases h w hw with y | y
      · exact absurd y hne
      · exact y
    exact noteRowV_mem (fun w => 0 < w ∧ w < 6582952005840035281) (pr _ tw.2.2.2.2.2) _ (noteRowV_mem (fun w => 0 < w ∧ w < 6582952005840035281) (pr _ tw.2.2.2.2.1) _ ih) e he
theorem nrF_lt {V : List VE} {w : Int} : ∀ (n k b : Nat), k + n ≤ V.length → b < V.length → nrF V w n k b < V.length
  | 0, _, _, _, h => h
  | n + 1, k, b, h1, h2 => by
    have e : nrF V w (n + 1) k b = nrF V w n (k + 1) (if dst w (wdV V k) < dst w (wdV V b) ∨ dst w (wdV V k) = dst w (wdV V b) ∧ cnV V b < cnV V k then k else b) := rfl
    rw [e]
    refine nrF_lt n (k + 1) _ (by omega) ?_
    split <;> omega
theorem nvW_ok {s : CS} (W : CWF s) (h : (nvA s).length ≠ 0) : 0 < nvW s ∧ nvW s < 6582952005840035281 := by
  have lt : nrV (nvA s) (wC s) < (nvA s).length := nrF_lt _ _ _ (by omega) (by omega)
  unfold nvW wdV
  rw [List.getElem?_eq_getElem lt]
  exact nvs_ok W _ (Nat.le_refl _) _ (List.getElem_mem lt)
theorem s_B_nearest {G : XG} {d : Nat} {h : XH} {Q : XV → XH → Prop} {X : Nat → XH → Prop} {s : CS} {n9 s9 : Int} (R : CIR h s) (M : Room h n9 s9) (hn : 0 ≤ n9) (hs : 0 ≤ s9) (q : CAN Q X xI h (cNearest s) n9 s9) : xwp G m_B_nearest (d + 7) 0 [xR 0, xZ, xZ, xZ] [] h Q X := by
  have hl60 := R.wf.1.2
  unfold cNearest at q
  have loop : ∀ (m i : Nat) (h2 : XH) (n : Int), i + m = (fC s).length → CIR h2 s → xsm (CLW h) h h2 → nxP h2 ≤ nxP h → slP h2 ≤ slP h → VocR h2 (nvs s i) → SortV (nvs s i) → CntV (nvs s i) n → 0 ≤ n → n ≤ 200 * i → (nvs s i).length ≤ 200 * i → xwp G m_B_nearest (d + 7) 10 [xR 0, xI i, xZ, xZ] [] h2 Q X := by
    intro m
    induction m with
    | zero =>
      intro i h2 n e R2 L2 n2 l2 VR SV CV n0 n1 vl
      have e7 := R2.eqs.2.2.2.2.2.2
      have es := VR.2.1
      have ew := R2.2.2.2.2.1
      have ei : i = (fC s).length := by omega
      rw [ei] at VR SV CV vl es
      have vle := vl
      refine v_B_nearest_10 R2.fx ?_
      refine ⟨?_, ?_⟩
      · first | exact R2.ok.2.1 | exact R2.ok | omega
      · refine ⟨fun q1 => ?_, fun q1 => ?_⟩
        · refine ⟨fun q2 => ?_, fun q2 => ?_⟩
          · rw [es] at q2
            rw [if_pos (by show (nvs s (fC s).length).length = 0; omega)] at q
            exact q.1 rfl h2 R2 L2 (by omega) (by omega)
          · rw [es] at q2
            have hne : (nvA s).length ≠ 0 := by show (nvs s (fC s).length).length ≠ 0; omega
            rw [if_neg hne] at q
            rw [ew]
            refine s_Voc_nearestTo R2.fx R2.1.2.1 VR (by omega) (fun h3 F3 S3 n3 l3 VR3 => ?_)
            obtain ⟨R3, L3⟩ := R2.voc F3 S3 (fun c hc => Or.inr hc) VR3
            have v3 : vlen h3 = vlen h2 := (VR.frame S3 (fun c v y => by
              have := VOW.fx R2.1.2 v
              unfold CHW at y
              by_cases z : c < 16
              · omega
              · omega) R2.fx).2
            have ew3 := R3.2.2.2.2.1
            have evw : vwa h3 (nrV (nvs s (fC s).length) (wC s) : Nat) = nvW s := VR3.wd _
            refine v_B_nearest_97 F3 ?_
            refine ⟨?_, ?_⟩
            · exact VR3.1
            · rw [ew3, evw]
              refine s_Voc_changes F3 (fun h4 F4 S4 n4 l4 => ?_)
              have VR4 := VR3.chg F3 R3.1.2.1 S4
              obtain ⟨R4, L4⟩ := R3.voc F4 S4 (fun c hc => Or.inr hc) VR4
              have v4 : vlen h4 = vlen h3 := (VR3.frame S4 (fun c v y => by
                have := VOW.fx R3.1.2 v
                unfold CHW at y
                by_cases z : c < 16
                · omega
                · omega) F3).2
              have wok := nvW_ok R.wf hne
              refine v_B_nearest_113 F4 ?_
              intro F9
              obtain ⟨R5, L5, v5⟩ := R4.word F9 ⟨by omega, wok.2⟩
              refine q.1 rfl _ R5 (CLW.trans (CLW.trans (CLW.trans L2 L3) L4) L5) ?_ ?_
              · unfold nxP at n2 ⊢; rw [v5, v4, v3]; show xnx h4 - _ ≤ _; omega
              · unfold slP at l2 ⊢; rw [v5, v4, v3]; show xsl h4 - _ ≤ _; omega
        · refine ⟨?_, ?_⟩
          · first | exact R2.ok.2.1 | exact R2.ok | omega
          · omega
    | succ m ih =>
      intro i h2 n e R2 L2 n2 l2 VR SV CV n0 n1 vl
      have e7 := R2.eqs.2.2.2.2.2.2
      have hrow := R2.row (p := i) (by omega) (by omega) 0
      have hm : fA s i ∈ fC s := List.mem_of_getElem? (fA_at (s := s) (i := i) (by omega))
      have tw := (R.wf.2.2.2.2.2 _ hm).2.2.2.1
      have tw : (rwT (fA s i).1 0).length + (rwT (fA s i).1 1).length ≤ 200 := tw
      refine v_B_nearest_10 R2.fx ?_
      refine ⟨?_, ?_⟩
      · first | exact R2.ok.2.1 | exact R2.ok | omega
      · refine ⟨fun q1 => ?_, fun q1 => ?_⟩
        · refine ⟨fun q2 => ?_, fun q2 => ?_⟩
          · omega
          · omega
        · refine ⟨?_, ?_⟩
          · first | exact R2.ok.2.1 | exact R2.ok | omega
          · have M2 : Room h2 0 0 := ⟨by have := M.1; omega, by have := M.2; omega⟩
            refine s_Voc_noteRow R2.fx VR SV CV n0 (by omega) (by omega) (M2.vo (Int.le_refl _) (Int.le_refl _)) hrow (fun h3 F3 S3 B3 VR3 SV3 CV3 => ?_)
            obtain ⟨R3, L3⟩ := R2.voc F3 S3 (fun c hc => Or.inl hc) VR3
            have pot := B3.pot
            have ln := noteRowV_len (rwT (fA s i).1 0) i (nvs s i)
            have hrow3 := R3.row (p := i) (by omega) (by omega) 1
            refine v_B_nearest_44 F3 ?_
            refine ⟨?_, ?_⟩
            · exact R3.ok
            · have M3 : Room h3 0 0 := ⟨by have := M2.1; omega, by have := M2.2; omega⟩
              refine s_Voc_noteRow F3 VR3 SV3 CV3 (by omega) (by omega) (by omega) (M3.vo (Int.le_refl _) (Int.le_refl _)) hrow3 (fun h4 F4 S4 B4 VR4 SV4 CV4 => ?_)
              obtain ⟨R4, L4⟩ := R3.voc F4 S4 (fun c hc => Or.inl hc) VR4
              have pot4 := B4.pot
              have ln4 := noteRowV_len (rwT (fA s i).1 1) i (noteRowV (nvs s i) (rwT (fA s i).1 0) i)
              refine v_B_nearest_64 F4 ?_
              refine ⟨?_, ?_⟩
              · exact ⟨by omega, by omega⟩
              · exact ih (i + 1) h4 _ (by omega) R4 (CLW.trans (CLW.trans L2 L3) L4) (by omega) (by omega) VR4 SV4 CV4 (by omega) (by omega) (by show (noteRowV _ _ _).length ≤ _; omega)
  refine v_B_nearest_0 R.fx ?_
  intro F9
  obtain ⟨V, VR⟩ := R.2.2.2.1
  obtain ⟨v1, v2, v3⟩ := VR.nil R.fx
  obtain ⟨R1, L1⟩ := R.voc F9 v3 (fun c hc => Or.inl hc) v1
  refine loop (fC s).length 0 _ 0 (by omega) R1 L1 ?_ ?_ v1 (fun i j a b _ h1 _ => by rw [show nvs s 0 = [] from rfl, List.getElem?_nil] at h1; cases h1) (fun e he => absurd he List.not_mem_nil) (Int.le_refl _) (by omega) (by show 0 ≤ _; omega)
  · unfold nxP; rw [v2]; show xnx h - _ ≤ _; omega
  · unfold slP; rw [v2]; show xsl h - _ ≤ _; omega

end
