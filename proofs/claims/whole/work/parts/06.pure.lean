/-! ===== the rows of the judgement that leave the heap alone ===== -/
section XP
theorem xal1 {a : XV} {l : List XV} (h : ∀ v ∈ a :: l, xok v) : xok a ∧ ∀ v ∈ l, xok v := ⟨h a List.mem_cons_self, fun v hv => h v (List.mem_cons_of_mem _ hv)⟩
theorem xac {a : XV} {l : List XV} (ha : xok a) (h : ∀ v ∈ l, xok v) : ∀ v ∈ a :: l, xok v := fun v hv => (List.mem_cons.mp hv).elim (fun e => by rw [e]; exact ha) (h v)
theorem x_pure {G : XG} {M : XM} {d pc pc' : Nat} {L L' S S' : List XV} {h : XH} {Q : XV → XH → Prop} {X : Nat → XH → Prop}
    (k : xwp G M d pc' L' S' h Q X) (hok : (∀ v ∈ S, xok v) → (∀ v ∈ L, v.1 < 7 → xok v) → ∀ v ∈ S', xok v)
    (step : ∀ (p : Program) (e : Env) (R : Room) (s : State) (m : MethodId) (args : Array Value) (below : List Frame) (meth : Method) (c : Code) (H : Heap) (locs : List Loc) (cells slots : Nat) (Z : State → Prop) (ls : Array Slot), xFx G M d p e R s m args meth c → xLR G M.2.2.1 L ls → (∀ v ∈ S, xok v) → (∀ ls', xLR G M.2.2.1 L' ls' → W p (gl G) e R s m args below meth c H locs cells slots Z (F0 m pc' ls' (S'.map (xcv G)))) → W p (gl G) e R s m args below meth c H locs cells slots Z (F0 m pc ls (S.map (xcv G)))) : xwp G M d pc L S h Q X := by
  intro p e R s m args below meth c H locs ls F hH hL hS hz hy hlo
  exact step p e R s m args below meth c H locs _ _ _ ls F hL hS (fun ls' hL' => k p e R s m args below meth c H locs ls' F hH hL' (hok hS hL.2) hz hy hlo)
theorem xr_iconst {G : XG} {M : XM} {d pc : Nat} {L S : List XV} {h : XH} {Q : XV → XH → Prop} {X : Nat → XH → Prop} {n : Int} (hI : decode M.2.1 pc = .ok (.iconst n, 1)) (hr : xiR n) (k : xwp G M d (pc + 1) L (xI n :: S) h Q X) : xwp G M d pc L S h Q X := x_pure k (fun hS _ => xac (hr) hS) (fun p e R s m args below meth c H locs cells slots Z ls F hL hS kk => by
  exact lv_iconst F.1 F.2.1 hI rfl (kk ls hL))
theorem xr_bipush {G : XG} {M : XM} {d pc : Nat} {L S : List XV} {h : XH} {Q : XV → XH → Prop} {X : Nat → XH → Prop} {n : Int} (hI : decode M.2.1 pc = .ok (.bipush n, 2)) (hr : xiR n) (hv : (Int8.ofInt n).toInt32 = Int32.ofInt n) (k : xwp G M d (pc + 2) L (xI n :: S) h Q X) : xwp G M d pc L S h Q X := x_pure k (fun hS _ => xac (hr) hS) (fun p e R s m args below meth c H locs cells slots Z ls F hL hS kk => by
  exact lv_bipush F.1 F.2.1 hI hv (kk ls hL))
theorem xr_sipush {G : XG} {M : XM} {d pc : Nat} {L S : List XV} {h : XH} {Q : XV → XH → Prop} {X : Nat → XH → Prop} {n : Int} (hI : decode M.2.1 pc = .ok (.sipush n, 3)) (hr : xiR n) (hv : (Int16.ofInt n).toInt32 = Int32.ofInt n) (k : xwp G M d (pc + 3) L (xI n :: S) h Q X) : xwp G M d pc L S h Q X := x_pure k (fun hS _ => xac (hr) hS) (fun p e R s m args below meth c H locs cells slots Z ls F hL hS kk => by
  exact lv_sipush F.1 F.2.1 hI hv (kk ls hL))
theorem xr_lconst {G : XG} {M : XM} {d pc : Nat} {L S : List XV} {h : XH} {Q : XV → XH → Prop} {X : Nat → XH → Prop} {n : Fin 2} {z : Int} (hI : decode M.2.1 pc = .ok (.lconst n, 1)) (hr : xlR z) (hv : Int64.ofNat (n : Nat) = Int64.ofInt z) (k : xwp G M d (pc + 1) L (xL z :: S) h Q X) : xwp G M d pc L S h Q X := x_pure k (fun hS _ => xac (hr) hS) (fun p e R s m args below meth c H locs cells slots Z ls F hL hS kk => by
  exact lv_lconst F.1 F.2.1 hI hv (kk ls hL))
theorem xr_dconst0 {G : XG} {M : XM} {d pc : Nat} {L S : List XV} {h : XH} {Q : XV → XH → Prop} {X : Nat → XH → Prop} (hI : decode M.2.1 pc = .ok (.dconst 0, 1)) (k : xwp G M d (pc + 1) L (xD 0 :: S) h Q X) : xwp G M d pc L S h Q X := x_pure k (fun hS _ => xac (show 0 ≤ (0 : Int) ∧ (0 : Int) < 18446744073709551616 by decide) hS) (fun p e R s m args below meth c H locs cells slots Z ls F hL hS kk => by
  exact lv_dconst0 F.1 F.2.1 hI (kk ls hL))
theorem xr_ldc {G : XG} {M : XM} {d pc : Nat} {L S : List XV} {h : XH} {Q : XV → XH → Prop} {X : Nat → XH → Prop} {n : Nat} {v : Int32} {z : Int} (hI : decode M.2.1 pc = .ok (.ldc n, 2)) (hw : Cond.constant M.1.cls n v ∈ lw_tbl) (hr : xiR z) (hv : v = Int32.ofInt z) (k : xwp G M d (pc + 2) L (xI z :: S) h Q X) : xwp G M d pc L S h Q X := x_pure k (fun hS _ => xac (hr) hS) (fun p e R s m args below meth c H locs cells slots Z ls F hL hS kk => by
  exact (by subst hv; exact lv_ldc F.1 F.2.1 F.2.2.2.2.2.1 (F.word hw rfl) hI (kk ls hL)))
theorem xr_ldc2 {G : XG} {M : XM} {d pc : Nat} {L S : List XV} {h : XH} {Q : XV → XH → Prop} {X : Nat → XH → Prop} {n : Nat} {v : Int64} {z : Int} (hI : decode M.2.1 pc = .ok (.ldc2_w n, 3)) (hw : Cond.constantLong M.1.cls n v ∈ lw_tbl) (hr : xlR z) (hv : v = Int64.ofInt z) (k : xwp G M d (pc + 3) L (xL z :: S) h Q X) : xwp G M d pc L S h Q X := x_pure k (fun hS _ => xac (hr) hS) (fun p e R s m args below meth c H locs cells slots Z ls F hL hS kk => by
  exact (by subst hv; exact lv_ldc2 F.1 F.2.1 F.2.2.2.2.2.1 (F.word hw rfl) hI (kk ls hL)))
theorem xr_aconst_null {G : XG} {M : XM} {d pc : Nat} {L S : List XV} {h : XH} {Q : XV → XH → Prop} {X : Nat → XH → Prop} (hI : decode M.2.1 pc = .ok (.aconst_null, 1)) (k : xwp G M d (pc + 1) L (xR (-1) :: S) h Q X) : xwp G M d pc L S h Q X := x_pure k (fun hS _ => xac (show True from trivial) hS) (fun p e R s m args below meth c H locs cells slots Z ls F hL hS kk => by
  exact lv_null F.1 F.2.1 hI (kk ls hL))
theorem xr_iload_n {G : XG} {M : XM} {d pc : Nat} {L S : List XV} {h : XH} {Q : XV → XH → Prop} {X : Nat → XH → Prop} {k9 : Fin 4} {i : Nat} {x : Int} (hI : decode M.2.1 pc = .ok (.iload_n k9, 1)) (hi : (k9 : Nat) = i) (hl : L[i]? = some (xI x)) (k : xwp G M d (pc + 1) L (xI x :: S) h Q X) : xwp G M d pc L S h Q X := x_pure k (fun hS hl9 => xac (hl9 _ (List.mem_of_getElem? hl) (Nat.le_of_ble_eq_true rfl)) hS) (fun p e R s m args below meth c H locs cells slots Z ls F hL hS kk => by
  exact lv_iload_n F.1 F.2.1 hI hi (xLR_get hL hl (Nat.le_of_ble_eq_true rfl)).1 (kk ls hL))
theorem xr_iload {G : XG} {M : XM} {d pc : Nat} {L S : List XV} {h : XH} {Q : XV → XH → Prop} {X : Nat → XH → Prop} {i : Nat} {x : Int} (hI : decode M.2.1 pc = .ok (.iload i, 2)) (hl : L[i]? = some (xI x)) (k : xwp G M d (pc + 2) L (xI x :: S) h Q X) : xwp G M d pc L S h Q X := x_pure k (fun hS hl9 => xac (hl9 _ (List.mem_of_getElem? hl) (Nat.le_of_ble_eq_true rfl)) hS) (fun p e R s m args below meth c H locs cells slots Z ls F hL hS kk => by
  exact lv_iload F.1 F.2.1 hI (xLR_get hL hl (Nat.le_of_ble_eq_true rfl)).1 (kk ls hL))
theorem xr_lload_n {G : XG} {M : XM} {d pc : Nat} {L S : List XV} {h : XH} {Q : XV → XH → Prop} {X : Nat → XH → Prop} {k9 : Fin 4} {i : Nat} {x : Int} (hI : decode M.2.1 pc = .ok (.lload_n k9, 1)) (hi : (k9 : Nat) = i) (hl : L[i]? = some (xL x)) (k : xwp G M d (pc + 1) L (xL x :: S) h Q X) : xwp G M d pc L S h Q X := x_pure k (fun hS hl9 => xac (hl9 _ (List.mem_of_getElem? hl) (Nat.le_of_ble_eq_true rfl)) hS) (fun p e R s m args below meth c H locs cells slots Z ls F hL hS kk => by
  exact lv_lload_n F.1 F.2.1 hI hi (xLR_get hL hl (Nat.le_of_ble_eq_true rfl)).1 (kk ls hL))
theorem xr_lload {G : XG} {M : XM} {d pc : Nat} {L S : List XV} {h : XH} {Q : XV → XH → Prop} {X : Nat → XH → Prop} {i : Nat} {x : Int} (hI : decode M.2.1 pc = .ok (.lload i, 2)) (hl : L[i]? = some (xL x)) (k : xwp G M d (pc + 2) L (xL x :: S) h Q X) : xwp G M d pc L S h Q X := x_pure k (fun hS hl9 => xac (hl9 _ (List.mem_of_getElem? hl) (Nat.le_of_ble_eq_true rfl)) hS) (fun p e R s m args below meth c H locs cells slots Z ls F hL hS kk => by
  exact lv_lload F.1 F.2.1 hI (xLR_get hL hl (Nat.le_of_ble_eq_true rfl)).1 (kk ls hL))
theorem xr_dload_n {G : XG} {M : XM} {d pc : Nat} {L S : List XV} {h : XH} {Q : XV → XH → Prop} {X : Nat → XH → Prop} {k9 : Fin 4} {i : Nat} {x : Int} (hI : decode M.2.1 pc = .ok (.dload_n k9, 1)) (hi : (k9 : Nat) = i) (hl : L[i]? = some (xD x)) (k : xwp G M d (pc + 1) L (xD x :: S) h Q X) : xwp G M d pc L S h Q X := x_pure k (fun hS hl9 => xac (hl9 _ (List.mem_of_getElem? hl) (Nat.le_of_ble_eq_true rfl)) hS) (fun p e R s m args below meth c H locs cells slots Z ls F hL hS kk => by
  exact lv_dload_n F.1 F.2.1 hI hi (xLR_get hL hl (Nat.le_of_ble_eq_true rfl)).1 (kk ls hL))
theorem xr_dload {G : XG} {M : XM} {d pc : Nat} {L S : List XV} {h : XH} {Q : XV → XH → Prop} {X : Nat → XH → Prop} {i : Nat} {x : Int} (hI : decode M.2.1 pc = .ok (.dload i, 2)) (hl : L[i]? = some (xD x)) (k : xwp G M d (pc + 2) L (xD x :: S) h Q X) : xwp G M d pc L S h Q X := x_pure k (fun hS hl9 => xac (hl9 _ (List.mem_of_getElem? hl) (Nat.le_of_ble_eq_true rfl)) hS) (fun p e R s m args below meth c H locs cells slots Z ls F hL hS kk => by
  exact lv_dload F.1 F.2.1 hI (xLR_get hL hl (Nat.le_of_ble_eq_true rfl)).1 (kk ls hL))
theorem xr_aload_n {G : XG} {M : XM} {d pc : Nat} {L S : List XV} {h : XH} {Q : XV → XH → Prop} {X : Nat → XH → Prop} {i : Nat} {x : Int} {k9 : Fin 4} (hi : (k9 : Nat) = i) (hI : decode M.2.1 pc = .ok (.aload_n k9, 1)) (hl : L[i]? = some (xR x)) (k : xwp G M d (pc + 1) L (xR x :: S) h Q X) : xwp G M d pc L S h Q X := x_pure k (fun hS _ => xac (show True from trivial) hS) (fun p e R s m args below meth c H locs cells slots Z ls F hL hS kk => by
  have hg := (xLR_get hL hl (Nat.le_of_ble_eq_true rfl)).1
  have k2 := kk ls hL
  change ls[i]? = some (.val (xadr G x)) at hg
  change W p (gl G) e R s m args below meth c H locs cells slots Z (F0 m (pc + 1) ls (xadr G x :: S.map (xcv G))) at k2
  rcases xadr_cases G x with ⟨q, -, eq⟩ | ⟨-, eq⟩
  · rw [eq] at hg k2
    exact lv_aload_n F.1 F.2.1 hI hi hg k2
  · rw [eq] at hg k2
    exact lv_aload_nN F.1 F.2.1 hI hi hg k2)
theorem xr_aload {G : XG} {M : XM} {d pc : Nat} {L S : List XV} {h : XH} {Q : XV → XH → Prop} {X : Nat → XH → Prop} {i : Nat} {x : Int}  (hI : decode M.2.1 pc = .ok (.aload i, 2)) (hl : L[i]? = some (xR x)) (k : xwp G M d (pc + 2) L (xR x :: S) h Q X) : xwp G M d pc L S h Q X := x_pure k (fun hS _ => xac (show True from trivial) hS) (fun p e R s m args below meth c H locs cells slots Z ls F hL hS kk => by
  have hg := (xLR_get hL hl (Nat.le_of_ble_eq_true rfl)).1
  have k2 := kk ls hL
  change ls[i]? = some (.val (xadr G x)) at hg
  change W p (gl G) e R s m args below meth c H locs cells slots Z (F0 m (pc + 2) ls (xadr G x :: S.map (xcv G))) at k2
  rcases xadr_cases G x with ⟨q, -, eq⟩ | ⟨-, eq⟩
  · rw [eq] at hg k2
    exact lv_aload F.1 F.2.1 hI hg k2
  · rw [eq] at hg k2
    exact lv_aloadN F.1 F.2.1 hI hg k2)
theorem xr_istore_n {G : XG} {M : XM} {d pc : Nat} {L S : List XV} {h : XH} {Q : XV → XH → Prop} {X : Nat → XH → Prop} {i : Nat} {x : Int} {L9 : List XV} {k9 : Fin 4} (hi : (k9 : Nat) = i) (hI : decode M.2.1 pc = .ok (.istore_n k9, 1)) (hn : i < M.2.2.1) (hL9 : xset i (xI x) L = L9) (k : xwp G M d (pc + 1) L9 S h Q X) : xwp G M d pc L (xI x :: S) h Q X := x_pure k (fun hS _ => (xal1 hS).2) (fun p e R s m args below meth c H locs cells slots Z ls F hL hS kk => by
  exact lv_istore_n F.1 F.2.1 hI hi hL.1 hn rfl (fun ls9 hl9 => kk ls9 (by rw [← hL9]; exact xLR_set1 (v := xI x) hL (xal1 hS).1 rfl hl9)))
theorem xr_istore {G : XG} {M : XM} {d pc : Nat} {L S : List XV} {h : XH} {Q : XV → XH → Prop} {X : Nat → XH → Prop} {i : Nat} {x : Int} {L9 : List XV}  (hI : decode M.2.1 pc = .ok (.istore i, 2)) (hn : i < M.2.2.1) (hL9 : xset i (xI x) L = L9) (k : xwp G M d (pc + 2) L9 S h Q X) : xwp G M d pc L (xI x :: S) h Q X := x_pure k (fun hS _ => (xal1 hS).2) (fun p e R s m args below meth c H locs cells slots Z ls F hL hS kk => by
  exact lv_istore F.1 F.2.1 hI hL.1 hn rfl (fun ls9 hl9 => kk ls9 (by rw [← hL9]; exact xLR_set1 (v := xI x) hL (xal1 hS).1 rfl hl9)))
theorem xr_lstore_n {G : XG} {M : XM} {d pc : Nat} {L S : List XV} {h : XH} {Q : XV → XH → Prop} {X : Nat → XH → Prop} {i : Nat} {x : Int} {L9 : List XV} {k9 : Fin 4} (hi : (k9 : Nat) = i) (hI : decode M.2.1 pc = .ok (.lstore_n k9, 1)) (hn : i + 1 < M.2.2.1) (hL9 : xset i (xL x) L = L9) (k : xwp G M d (pc + 1) L9 S h Q X) : xwp G M d pc L (xL x :: S) h Q X := x_pure k (fun hS _ => (xal1 hS).2) (fun p e R s m args below meth c H locs cells slots Z ls F hL hS kk => by
  exact lv_lstore_n F.1 F.2.1 hI hi hL.1 hn rfl (fun ls9 hl9 => kk ls9 (by rw [← hL9]; exact xLR_set2 (v := xL x) hL (xal1 hS).1 rfl hl9)))
theorem xr_lstore {G : XG} {M : XM} {d pc : Nat} {L S : List XV} {h : XH} {Q : XV → XH → Prop} {X : Nat → XH → Prop} {i : Nat} {x : Int} {L9 : List XV}  (hI : decode M.2.1 pc = .ok (.lstore i, 2)) (hn : i + 1 < M.2.2.1) (hL9 : xset i (xL x) L = L9) (k : xwp G M d (pc + 2) L9 S h Q X) : xwp G M d pc L (xL x :: S) h Q X := x_pure k (fun hS _ => (xal1 hS).2) (fun p e R s m args below meth c H locs cells slots Z ls F hL hS kk => by
  exact lv_lstore F.1 F.2.1 hI hL.1 hn rfl (fun ls9 hl9 => kk ls9 (by rw [← hL9]; exact xLR_set2 (v := xL x) hL (xal1 hS).1 rfl hl9)))
theorem xr_dstore_n {G : XG} {M : XM} {d pc : Nat} {L S : List XV} {h : XH} {Q : XV → XH → Prop} {X : Nat → XH → Prop} {i : Nat} {x : Int} {L9 : List XV} {k9 : Fin 4} (hi : (k9 : Nat) = i) (hI : decode M.2.1 pc = .ok (.dstore_n k9, 1)) (hn : i + 1 < M.2.2.1) (hL9 : xset i (xD x) L = L9) (k : xwp G M d (pc + 1) L9 S h Q X) : xwp G M d pc L (xD x :: S) h Q X := x_pure k (fun hS _ => (xal1 hS).2) (fun p e R s m args below meth c H locs cells slots Z ls F hL hS kk => by
  exact lv_dstore_n F.1 F.2.1 hI hi hL.1 hn rfl (fun ls9 hl9 => kk ls9 (by rw [← hL9]; exact xLR_set2 (v := xD x) hL (xal1 hS).1 rfl hl9)))
theorem xr_dstore {G : XG} {M : XM} {d pc : Nat} {L S : List XV} {h : XH} {Q : XV → XH → Prop} {X : Nat → XH → Prop} {i : Nat} {x : Int} {L9 : List XV}  (hI : decode M.2.1 pc = .ok (.dstore i, 2)) (hn : i + 1 < M.2.2.1) (hL9 : xset i (xD x) L = L9) (k : xwp G M d (pc + 2) L9 S h Q X) : xwp G M d pc L (xD x :: S) h Q X := x_pure k (fun hS _ => (xal1 hS).2) (fun p e R s m args below meth c H locs cells slots Z ls F hL hS kk => by
  exact lv_dstore F.1 F.2.1 hI hL.1 hn rfl (fun ls9 hl9 => kk ls9 (by rw [← hL9]; exact xLR_set2 (v := xD x) hL (xal1 hS).1 rfl hl9)))
theorem xr_astore_n {G : XG} {M : XM} {d pc : Nat} {L S : List XV} {h : XH} {Q : XV → XH → Prop} {X : Nat → XH → Prop} {i : Nat} {x : Int} {L9 : List XV} {k9 : Fin 4} (hi : (k9 : Nat) = i) (hI : decode M.2.1 pc = .ok (.astore_n k9, 1)) (hn : i < M.2.2.1) (hL9 : xset i (xR x) L = L9) (k : xwp G M d (pc + 1) L9 S h Q X) : xwp G M d pc L (xR x :: S) h Q X := x_pure k (fun hS _ => (xal1 hS).2) (fun p e R s m args below meth c H locs cells slots Z ls F hL hS kk => by
  have kk2 : ∀ ls9, lv_has ls9 M.2.2.1 ((i, xadr G x) :: (xlvl G 0 L).filter (fun q => !(q.1 == i) && !(q.1 + 1 == i && q.2.category == 2))) → W p (gl G) e R s m args below meth c H locs cells slots Z (F0 m (pc + 1) ls9 (S.map (xcv G))) := fun ls9 hl9 => kk ls9 (by rw [← hL9]; exact xLR_set1 (v := xR x) hL trivial rfl hl9)
  show W p (gl G) e R s m args below meth c H locs cells slots Z (F0 m pc ls (xadr G x :: S.map (xcv G)))
  rcases xadr_cases G x with ⟨q, -, eq⟩ | ⟨-, eq⟩
  · rw [eq] at kk2 ⊢
    exact lv_astore_n F.1 F.2.1 hI hi hL.1 hn rfl kk2
  · rw [eq] at kk2 ⊢
    exact lv_astore_nN F.1 F.2.1 hI hi hL.1 hn rfl kk2)
theorem xr_astore {G : XG} {M : XM} {d pc : Nat} {L S : List XV} {h : XH} {Q : XV → XH → Prop} {X : Nat → XH → Prop} {i : Nat} {x : Int} {L9 : List XV}  (hI : decode M.2.1 pc = .ok (.astore i, 2)) (hn : i < M.2.2.1) (hL9 : xset i (xR x) L = L9) (k : xwp G M d (pc + 2) L9 S h Q X) : xwp G M d pc L (xR x :: S) h Q X := x_pure k (fun hS _ => (xal1 hS).2) (fun p e R s m args below meth c H locs cells slots Z ls F hL hS kk => by
  have kk2 : ∀ ls9, lv_has ls9 M.2.2.1 ((i, xadr G x) :: (xlvl G 0 L).filter (fun q => !(q.1 == i) && !(q.1 + 1 == i && q.2.category == 2))) → W p (gl G) e R s m args below meth c H locs cells slots Z (F0 m (pc + 2) ls9 (S.map (xcv G))) := fun ls9 hl9 => kk ls9 (by rw [← hL9]; exact xLR_set1 (v := xR x) hL trivial rfl hl9)
  show W p (gl G) e R s m args below meth c H locs cells slots Z (F0 m pc ls (xadr G x :: S.map (xcv G)))
  rcases xadr_cases G x with ⟨q, -, eq⟩ | ⟨-, eq⟩
  · rw [eq] at kk2 ⊢
    exact lv_astore F.1 F.2.1 hI hL.1 hn rfl kk2
  · rw [eq] at kk2 ⊢
    exact lv_astoreN F.1 F.2.1 hI hL.1 hn rfl kk2)
theorem xr_iinc {G : XG} {M : XM} {d pc : Nat} {L S : List XV} {h : XH} {Q : XV → XH → Prop} {X : Nat → XH → Prop} {i : Nat} {n x : Int} {L9 : List XV} (hI : decode M.2.1 pc = .ok (.iinc i n, 3)) (hl : L[i]? = some (xI x)) (hn : i < M.2.2.1) (hr : xiR (x + n)) (hL9 : xset i (xI (x + n)) L = L9) (k : xwp G M d (pc + 3) L9 S h Q X) : xwp G M d pc L S h Q X := x_pure k (fun hS _ => hS) (fun p e R s m args below meth c H locs cells slots Z ls F hL hS kk => by
  obtain ⟨k9, hk9⟩ := List.getElem?_of_mem ((xlvl_mem G L 0 (i, .int (Int32.ofInt x))).mpr ⟨i, xI x, hl, Nat.le_of_ble_eq_true rfl, by rw [Nat.zero_add]; rfl⟩)
  exact lv_iinc F.1 F.2.1 hI hL.1 hk9 (Int32.ofInt_add x n).symm hn rfl (fun ls9 hl9 => kk ls9 (by rw [← hL9]; exact xLR_set1 (v := xI (x + n)) hL hr rfl hl9)))
theorem xr_iadd {G : XG} {M : XM} {d pc : Nat} {L S : List XV} {h : XH} {Q : XV → XH → Prop} {X : Nat → XH → Prop} {a b : Int} (hI : decode M.2.1 pc = .ok (.iadd, 1)) (hr : xiR (a + b)) (k : xwp G M d (pc + 1) L (xI (a + b) :: S) h Q X) : xwp G M d pc L (xI b :: xI a :: S) h Q X := x_pure k (fun hS _ => xac (hr) (xal1 (xal1 hS).2).2) (fun p e R s m args below meth c H locs cells slots Z ls F hL hS kk => by
  have hb9 : xiR b := (xal1 hS).1
  have ha9 : xiR a := (xal1 (xal1 hS).2).1
  refine lv_iadd F.1 F.2.1 hI ?_
  rw [← Int32.ofInt_add]
  exact kk ls hL)
theorem xr_isub {G : XG} {M : XM} {d pc : Nat} {L S : List XV} {h : XH} {Q : XV → XH → Prop} {X : Nat → XH → Prop} {a b : Int} (hI : decode M.2.1 pc = .ok (.isub, 1)) (hr : xiR (a - b)) (k : xwp G M d (pc + 1) L (xI (a - b) :: S) h Q X) : xwp G M d pc L (xI b :: xI a :: S) h Q X := x_pure k (fun hS _ => xac (hr) (xal1 (xal1 hS).2).2) (fun p e R s m args below meth c H locs cells slots Z ls F hL hS kk => by
  have hb9 : xiR b := (xal1 hS).1
  have ha9 : xiR a := (xal1 (xal1 hS).2).1
  refine lv_isub F.1 F.2.1 hI ?_
  rw [← Int32.ofInt_sub]
  exact kk ls hL)
theorem xr_imul {G : XG} {M : XM} {d pc : Nat} {L S : List XV} {h : XH} {Q : XV → XH → Prop} {X : Nat → XH → Prop} {a b : Int} (hI : decode M.2.1 pc = .ok (.imul, 1)) (hr : xiR (a * b)) (k : xwp G M d (pc + 1) L (xI (a * b) :: S) h Q X) : xwp G M d pc L (xI b :: xI a :: S) h Q X := x_pure k (fun hS _ => xac (hr) (xal1 (xal1 hS).2).2) (fun p e R s m args below meth c H locs cells slots Z ls F hL hS kk => by
  have hb9 : xiR b := (xal1 hS).1
  have ha9 : xiR a := (xal1 (xal1 hS).2).1
  refine lv_imul F.1 F.2.1 hI ?_
  rw [← Int32.ofInt_mul]
  exact kk ls hL)
theorem xr_idiv {G : XG} {M : XM} {d pc : Nat} {L S : List XV} {h : XH} {Q : XV → XH → Prop} {X : Nat → XH → Prop} {a b : Int} (hI : decode M.2.1 pc = .ok (.idiv, 1)) (h0 : 0 < b) (k : xwp G M d (pc + 1) L (xI (a.tdiv b) :: S) h Q X) : xwp G M d pc L (xI b :: xI a :: S) h Q X := x_pure k (fun hS _ => xac (xi_divR (xal1 (xal1 hS).2).1 h0) (xal1 (xal1 hS).2).2) (fun p e R s m args below meth c H locs cells slots Z ls F hL hS kk => by
  have hb9 : xiR b := (xal1 hS).1
  have ha9 : xiR a := (xal1 (xal1 hS).2).1
  refine lv_idiv F.1 F.2.1 hI (fun z => by have z2 : Int32.ofInt b = Int32.ofInt 0 := z; rw [xi_eq hb9 xi_z] at z2; omega) ?_
  rw [xi_div ha9 hb9 h0]
  exact kk ls hL)
theorem xr_irem {G : XG} {M : XM} {d pc : Nat} {L S : List XV} {h : XH} {Q : XV → XH → Prop} {X : Nat → XH → Prop} {a b : Int} (hI : decode M.2.1 pc = .ok (.irem, 1)) (h0 : 0 < b) (k : xwp G M d (pc + 1) L (xI (a.tmod b) :: S) h Q X) : xwp G M d pc L (xI b :: xI a :: S) h Q X := x_pure k (fun hS _ => xac (xi_remR (xal1 (xal1 hS).2).1 (xal1 hS).1 h0) (xal1 (xal1 hS).2).2) (fun p e R s m args below meth c H locs cells slots Z ls F hL hS kk => by
  have hb9 : xiR b := (xal1 hS).1
  have ha9 : xiR a := (xal1 (xal1 hS).2).1
  refine lv_irem F.1 F.2.1 hI (fun z => by have z2 : Int32.ofInt b = Int32.ofInt 0 := z; rw [xi_eq hb9 xi_z] at z2; omega) ?_
  rw [xi_rem ha9 hb9 h0]
  exact kk ls hL)
theorem xr_iand {G : XG} {M : XM} {d pc : Nat} {L S : List XV} {h : XH} {Q : XV → XH → Prop} {X : Nat → XH → Prop} {a b : Int} (hI : decode M.2.1 pc = .ok (.iand, 1))  (k : xwp G M d (pc + 1) L (xI (xand a b) :: S) h Q X) : xwp G M d pc L (xI b :: xI a :: S) h Q X := x_pure k (fun hS _ => xac (xi_toR _) (xal1 (xal1 hS).2).2) (fun p e R s m args below meth c H locs cells slots Z ls F hL hS kk => by
  have hb9 : xiR b := (xal1 hS).1
  have ha9 : xiR a := (xal1 (xal1 hS).2).1
  refine lv_iand F.1 F.2.1 hI ?_
  have k2 := kk ls hL
  simp only [List.map_cons] at k2
  change W p (gl G) e R s m args below meth c H locs cells slots Z (F0 m (pc + 1) ls (.int (Int32.ofInt (xand a b)) :: S.map (xcv G))) at k2
  unfold xand at k2
  rw [Int32.ofInt_toInt] at k2
  exact k2)
theorem xr_ior {G : XG} {M : XM} {d pc : Nat} {L S : List XV} {h : XH} {Q : XV → XH → Prop} {X : Nat → XH → Prop} {a b : Int} (hI : decode M.2.1 pc = .ok (.ior, 1))  (k : xwp G M d (pc + 1) L (xI (xior a b) :: S) h Q X) : xwp G M d pc L (xI b :: xI a :: S) h Q X := x_pure k (fun hS _ => xac (xi_toR _) (xal1 (xal1 hS).2).2) (fun p e R s m args below meth c H locs cells slots Z ls F hL hS kk => by
  have hb9 : xiR b := (xal1 hS).1
  have ha9 : xiR a := (xal1 (xal1 hS).2).1
  refine lv_ior F.1 F.2.1 hI ?_
  have k2 := kk ls hL
  simp only [List.map_cons] at k2
  change W p (gl G) e R s m args below meth c H locs cells slots Z (F0 m (pc + 1) ls (.int (Int32.ofInt (xior a b)) :: S.map (xcv G))) at k2
  unfold xior at k2
  rw [Int32.ofInt_toInt] at k2
  exact k2)
theorem xr_ishl {G : XG} {M : XM} {d pc : Nat} {L S : List XV} {h : XH} {Q : XV → XH → Prop} {X : Nat → XH → Prop} {a b : Int} (hI : decode M.2.1 pc = .ok (.ishl, 1))  (k : xwp G M d (pc + 1) L (xI (xshl a b) :: S) h Q X) : xwp G M d pc L (xI b :: xI a :: S) h Q X := x_pure k (fun hS _ => xac (xi_toR _) (xal1 (xal1 hS).2).2) (fun p e R s m args below meth c H locs cells slots Z ls F hL hS kk => by
  have hb9 : xiR b := (xal1 hS).1
  have ha9 : xiR a := (xal1 (xal1 hS).2).1
  refine lv_ishl F.1 F.2.1 hI ?_
  have k2 := kk ls hL
  simp only [List.map_cons] at k2
  change W p (gl G) e R s m args below meth c H locs cells slots Z (F0 m (pc + 1) ls (.int (Int32.ofInt (xshl a b)) :: S.map (xcv G))) at k2
  unfold xshl at k2
  rw [Int32.ofInt_toInt] at k2
  exact k2)
theorem xr_ishr {G : XG} {M : XM} {d pc : Nat} {L S : List XV} {h : XH} {Q : XV → XH → Prop} {X : Nat → XH → Prop} {a b : Int} (hI : decode M.2.1 pc = .ok (.ishr, 1))  (k : xwp G M d (pc + 1) L (xI (xshr a b) :: S) h Q X) : xwp G M d pc L (xI b :: xI a :: S) h Q X := x_pure k (fun hS _ => xac (xi_toR _) (xal1 (xal1 hS).2).2) (fun p e R s m args below meth c H locs cells slots Z ls F hL hS kk => by
  have hb9 : xiR b := (xal1 hS).1
  have ha9 : xiR a := (xal1 (xal1 hS).2).1
  refine lv_ishr F.1 F.2.1 hI ?_
  have k2 := kk ls hL
  simp only [List.map_cons] at k2
  change W p (gl G) e R s m args below meth c H locs cells slots Z (F0 m (pc + 1) ls (.int (Int32.ofInt (xshr a b)) :: S.map (xcv G))) at k2
  unfold xshr at k2
  rw [Int32.ofInt_toInt] at k2
  exact k2)
theorem xr_iushr {G : XG} {M : XM} {d pc : Nat} {L S : List XV} {h : XH} {Q : XV → XH → Prop} {X : Nat → XH → Prop} {a b : Int} (hI : decode M.2.1 pc = .ok (.iushr, 1)) (k : xwp G M d (pc + 1) L (xI (xushr a b) :: S) h Q X) : xwp G M d pc L (xI b :: xI a :: S) h Q X := x_pure k (fun hS _ => xac (xi_toR _) (xal1 (xal1 hS).2).2) (fun p e R s m args below meth c H locs cells slots Z ls F hL hS kk => by
  exact lv_iushr F.1 F.2.1 hI (by unfold xushr; rw [Int32.ofInt_toInt]) (kk ls hL))
theorem xr_ladd {G : XG} {M : XM} {d pc : Nat} {L S : List XV} {h : XH} {Q : XV → XH → Prop} {X : Nat → XH → Prop} {a b : Int} (hI : decode M.2.1 pc = .ok (.ladd, 1))  (k : xwp G M d (pc + 1) L (xL (xw64 (a + b)) :: S) h Q X) : xwp G M d pc L (xL b :: xL a :: S) h Q X := x_pure k (fun hS _ => xac (xl_toR _) (xal1 (xal1 hS).2).2) (fun p e R s m args below meth c H locs cells slots Z ls F hL hS kk => by
  have hb9 : xlR b := (xal1 hS).1
  have ha9 : xlR a := (xal1 (xal1 hS).2).1
  refine lv_ladd F.1 F.2.1 hI ?_
  have k2 := kk ls hL
  change W p (gl G) e R s m args below meth c H locs cells slots Z (F0 m (pc + 1) ls (.long (Int64.ofInt (xw64 (a + b))) :: S.map (xcv G))) at k2
  unfold xw64 at k2
  rw [Int64.ofInt_toInt, Int64.ofInt_add] at k2
  exact k2)
theorem xr_lmul {G : XG} {M : XM} {d pc : Nat} {L S : List XV} {h : XH} {Q : XV → XH → Prop} {X : Nat → XH → Prop} {a b : Int} (hI : decode M.2.1 pc = .ok (.lmul, 1))  (k : xwp G M d (pc + 1) L (xL (xw64 (a * b)) :: S) h Q X) : xwp G M d pc L (xL b :: xL a :: S) h Q X := x_pure k (fun hS _ => xac (xl_toR _) (xal1 (xal1 hS).2).2) (fun p e R s m args below meth c H locs cells slots Z ls F hL hS kk => by
  have hb9 : xlR b := (xal1 hS).1
  have ha9 : xlR a := (xal1 (xal1 hS).2).1
  refine lv_lmul F.1 F.2.1 hI ?_
  have k2 := kk ls hL
  change W p (gl G) e R s m args below meth c H locs cells slots Z (F0 m (pc + 1) ls (.long (Int64.ofInt (xw64 (a * b))) :: S.map (xcv G))) at k2
  unfold xw64 at k2
  rw [Int64.ofInt_toInt, Int64.ofInt_mul] at k2
  exact k2)
theorem xr_ldiv {G : XG} {M : XM} {d pc : Nat} {L S : List XV} {h : XH} {Q : XV → XH → Prop} {X : Nat → XH → Prop} {a b : Int} (hI : decode M.2.1 pc = .ok (.ldiv, 1)) (h0 : 0 < b) (k : xwp G M d (pc + 1) L (xL (a.tdiv b) :: S) h Q X) : xwp G M d pc L (xL b :: xL a :: S) h Q X := x_pure k (fun hS _ => xac (xl_divR (xal1 (xal1 hS).2).1 h0) (xal1 (xal1 hS).2).2) (fun p e R s m args below meth c H locs cells slots Z ls F hL hS kk => by
  have hb9 : xlR b := (xal1 hS).1
  have ha9 : xlR a := (xal1 (xal1 hS).2).1
  refine lv_ldiv F.1 F.2.1 hI (fun z => by have z2 : Int64.ofInt b = Int64.ofInt 0 := z; rw [xl_eq hb9 (by decide)] at z2; omega) ?_
  rw [xl_div ha9 hb9 h0]
  exact kk ls hL)
theorem xr_lrem {G : XG} {M : XM} {d pc : Nat} {L S : List XV} {h : XH} {Q : XV → XH → Prop} {X : Nat → XH → Prop} {a b : Int} (hI : decode M.2.1 pc = .ok (.lrem, 1)) (h0 : 0 < b) (k : xwp G M d (pc + 1) L (xL (a.tmod b) :: S) h Q X) : xwp G M d pc L (xL b :: xL a :: S) h Q X := x_pure k (fun hS _ => xac (xl_remR (xal1 (xal1 hS).2).1 (xal1 hS).1 h0) (xal1 (xal1 hS).2).2) (fun p e R s m args below meth c H locs cells slots Z ls F hL hS kk => by
  have hb9 : xlR b := (xal1 hS).1
  have ha9 : xlR a := (xal1 (xal1 hS).2).1
  refine lv_lrem F.1 F.2.1 hI (fun z => by have z2 : Int64.ofInt b = Int64.ofInt 0 := z; rw [xl_eq hb9 (by decide)] at z2; omega) ?_
  rw [xl_rem ha9 hb9 h0]
  exact kk ls hL)
theorem xr_lcmp {G : XG} {M : XM} {d pc : Nat} {L S : List XV} {h : XH} {Q : XV → XH → Prop} {X : Nat → XH → Prop} {a b : Int} (hI : decode M.2.1 pc = .ok (.lcmp, 1)) (k : xwp G M d (pc + 1) L (xI (xcmp a b) :: S) h Q X) : xwp G M d pc L (xL b :: xL a :: S) h Q X := x_pure k (fun hS _ => xac (by show xiR (xcmp a b); unfold xcmp; split <;> (try split) <;> decide) (xal1 (xal1 hS).2).2) (fun p e R s m args below meth c H locs cells slots Z ls F hL hS kk => by
  have hb9 : xlR b := (xal1 hS).1
  have ha9 : xlR a := (xal1 (xal1 hS).2).1
  refine W.lcmp F.1 F.2.1 hI ?_
  have e : lg_cmp (Int64.ofInt a) (Int64.ofInt b) = Int32.ofInt (xcmp a b) := by
    unfold lg_cmp xcmp
    by_cases q : b < a
    · rw [if_pos ((xl_lt hb9 ha9).mpr q), if_pos q]; rfl
    · rw [if_neg (fun z => q ((xl_lt hb9 ha9).mp z)), if_neg q]
      by_cases q2 : a = b
      · rw [if_pos ((xl_eq ha9 hb9).mpr q2), if_pos q2]; rfl
      · rw [if_neg (fun z => q2 ((xl_eq ha9 hb9).mp z)), if_neg q2]; rfl
  rw [e]
  exact kk ls hL)
theorem xr_i2l {G : XG} {M : XM} {d pc : Nat} {L S : List XV} {h : XH} {Q : XV → XH → Prop} {X : Nat → XH → Prop} {a : Int} (hI : decode M.2.1 pc = .ok (.i2l, 1)) (k : xwp G M d (pc + 1) L (xL (a) :: S) h Q X) : xwp G M d pc L (xI a :: S) h Q X := x_pure k (fun hS _ => xac (show xlR a from ⟨by have h9 := (xal1 hS).1.1; exact Int.le_trans (by decide) h9, by have h9 := (xal1 hS).1.2; exact Int.le_trans h9 (by decide)⟩) (xal1 hS).2) (fun p e R s m args below meth c H locs cells slots Z ls F hL hS kk => by
  have ha9 := (xal1 hS).1
  exact lv_i2l F.1 F.2.1 hI (Int32.toInt64_ofInt (by have h9 := ha9.1; exact h9) (by have h9 := ha9.2; exact h9)) (kk ls hL))
theorem xr_l2i {G : XG} {M : XM} {d pc : Nat} {L S : List XV} {h : XH} {Q : XV → XH → Prop} {X : Nat → XH → Prop} {a : Int} (hI : decode M.2.1 pc = .ok (.l2i, 1)) (k : xwp G M d (pc + 1) L (xI (xw32 a) :: S) h Q X) : xwp G M d pc L (xL a :: S) h Q X := x_pure k (fun hS _ => xac (xi_toR _) (xal1 hS).2) (fun p e R s m args below meth c H locs cells slots Z ls F hL hS kk => by
  have ha9 := (xal1 hS).1
  exact lv_l2i F.1 F.2.1 hI (by unfold xw32; rw [Int32.ofInt_toInt]; exact Int64.toInt32_ofInt) (kk ls hL))
theorem xr_i2c {G : XG} {M : XM} {d pc : Nat} {L S : List XV} {h : XH} {Q : XV → XH → Prop} {X : Nat → XH → Prop} {a : Int} (hI : decode M.2.1 pc = .ok (.i2c, 1)) (k : xwp G M d (pc + 1) L (xI (xi2c a) :: S) h Q X) : xwp G M d pc L (xI a :: S) h Q X := x_pure k (fun hS _ => xac (xi_toR _) (xal1 hS).2) (fun p e R s m args below meth c H locs cells slots Z ls F hL hS kk => by
  have ha9 := (xal1 hS).1
  exact lv_i2c F.1 F.2.1 hI (by unfold xi2c; rw [Int32.ofInt_toInt]) (kk ls hL))
theorem xr_i2b {G : XG} {M : XM} {d pc : Nat} {L S : List XV} {h : XH} {Q : XV → XH → Prop} {X : Nat → XH → Prop} {a : Int} (hI : decode M.2.1 pc = .ok (.i2b, 1)) (k : xwp G M d (pc + 1) L (xI (xi2b a) :: S) h Q X) : xwp G M d pc L (xI a :: S) h Q X := x_pure k (fun hS _ => xac (xi_toR _) (xal1 hS).2) (fun p e R s m args below meth c H locs cells slots Z ls F hL hS kk => by
  have ha9 := (xal1 hS).1
  exact lv_i2b F.1 F.2.1 hI (by unfold xi2b; rw [Int32.ofInt_toInt]) (kk ls hL))
theorem xr_ineg {G : XG} {M : XM} {d pc : Nat} {L S : List XV} {h : XH} {Q : XV → XH → Prop} {X : Nat → XH → Prop} {a : Int} (hI : decode M.2.1 pc = .ok (.ineg, 1)) (hr : xiR (-a)) (k : xwp G M d (pc + 1) L (xI (-a) :: S) h Q X) : xwp G M d pc L (xI a :: S) h Q X := x_pure k (fun hS _ => xac hr (xal1 hS).2) (fun p e R s m args below meth c H locs cells slots Z ls F hL hS kk => by
  refine lv_ineg F.1 F.2.1 hI ?_
  rw [← Int32.ofInt_neg]
  exact kk ls hL)
theorem xr_i2d {G : XG} {M : XM} {d pc : Nat} {L S : List XV} {h : XH} {Q : XV → XH → Prop} {X : Nat → XH → Prop} {a : Int} (hI : decode M.2.1 pc = .ok (.i2d, 1)) (k : xwp G M d (pc + 1) L (xD (xi2d a) :: S) h Q X) : xwp G M d pc L (xI a :: S) h Q X := x_pure k (fun hS _ => xac (xd_toR _) (xal1 hS).2) (fun p e R s m args below meth c H locs cells slots Z ls F hL hS kk => by
  refine lv_i2d F.1 F.2.1 hI ?_
  have k2 := kk ls hL
  change W p (gl G) e R s m args below meth c H locs cells slots Z (F0 m (pc + 1) ls (.double (UInt64.ofNat (xi2d a).toNat) :: S.map (xcv G))) at k2
  unfold xi2d at k2
  rw [xd_to] at k2
  exact k2)
theorem xr_l2d {G : XG} {M : XM} {d pc : Nat} {L S : List XV} {h : XH} {Q : XV → XH → Prop} {X : Nat → XH → Prop} {a : Int} (hI : decode M.2.1 pc = .ok (.l2d, 1)) (k : xwp G M d (pc + 1) L (xD (xl2d a) :: S) h Q X) : xwp G M d pc L (xL a :: S) h Q X := x_pure k (fun hS _ => xac (xd_toR _) (xal1 hS).2) (fun p e R s m args below meth c H locs cells slots Z ls F hL hS kk => by
  refine lv_l2d F.1 F.2.1 hI ?_
  have k2 := kk ls hL
  change W p (gl G) e R s m args below meth c H locs cells slots Z (F0 m (pc + 1) ls (.double (UInt64.ofNat (xl2d a).toNat) :: S.map (xcv G))) at k2
  unfold xl2d at k2
  rw [xd_to] at k2
  exact k2)
theorem xr_ddiv {G : XG} {M : XM} {d pc : Nat} {L S : List XV} {h : XH} {Q : XV → XH → Prop} {X : Nat → XH → Prop} {a b : Int} (hI : decode M.2.1 pc = .ok (.ddiv, 1)) (hr : vf_n64 (FP.ddiv (UInt64.ofNat a.toNat) (UInt64.ofNat b.toNat))) (k : xwp G M d (pc + 1) L (xD (xddiv a b) :: S) h Q X) : xwp G M d pc L (xD b :: xD a :: S) h Q X := x_pure k (fun hS _ => xac (xd_toR _) (xal1 (xal1 hS).2).2) (fun p e R s m args below meth c H locs cells slots Z ls F hL hS kk => by
  refine lv_ddiv F.1 F.2.1 hI hr ?_
  have k2 := kk ls hL
  change W p (gl G) e R s m args below meth c H locs cells slots Z (F0 m (pc + 1) ls (.double (UInt64.ofNat (xddiv a b).toNat) :: S.map (xcv G))) at k2
  unfold xddiv at k2
  rw [xd_to] at k2
  exact k2)
theorem xr_dcmp {G : XG} {M : XM} {d pc : Nat} {L S : List XV} {h : XH} {Q : XV → XH → Prop} {X : Nat → XH → Prop} {a b : Int} {op : CmpOp} (hI : decode M.2.1 pc = .ok (.dcmp op, 1)) (k : xwp G M d (pc + 1) L (xI (xdcmp op a b) :: S) h Q X) : xwp G M d pc L (xD b :: xD a :: S) h Q X := x_pure k (fun hS _ => xac (xi_toR _) (xal1 (xal1 hS).2).2) (fun p e R s m args below meth c H locs cells slots Z ls F hL hS kk => by
  refine lv_dcmp F.1 F.2.1 hI ?_
  have k2 := kk ls hL
  change W p (gl G) e R s m args below meth c H locs cells slots Z (F0 m (pc + 1) ls (.int (Int32.ofInt (xdcmp op a b)) :: S.map (xcv G))) at k2
  unfold xdcmp at k2
  rw [Int32.ofInt_toInt] at k2
  exact k2)
theorem xr_dup {G : XG} {M : XM} {d pc : Nat} {L S : List XV} {h : XH} {Q : XV → XH → Prop} {X : Nat → XH → Prop} {v : XV} (hI : decode M.2.1 pc = .ok (.dup, 1)) (hv : xcat2 v = false) (k : xwp G M d (pc + 1) L (v :: v :: S) h Q X) : xwp G M d pc L (v :: S) h Q X := x_pure k (fun hS _ => xac (xal1 hS).1 hS) (fun p e R s m args below meth c H locs cells slots Z ls F hL hS kk => by
  exact lv_dup F.1 F.2.1 hI (xcat_ne G hv) (kk ls hL))
theorem xr_pop {G : XG} {M : XM} {d pc : Nat} {L S : List XV} {h : XH} {Q : XV → XH → Prop} {X : Nat → XH → Prop} {v : XV} (hI : decode M.2.1 pc = .ok (.pop, 1)) (hv : xcat2 v = false) (k : xwp G M d (pc + 1) L S h Q X) : xwp G M d pc L (v :: S) h Q X := x_pure k (fun hS _ => (xal1 hS).2) (fun p e R s m args below meth c H locs cells slots Z ls F hL hS kk => by
  exact lv_pop F.1 F.2.1 hI (xcat_ne G hv) (kk ls hL))
theorem xr_dup_x1 {G : XG} {M : XM} {d pc : Nat} {L S : List XV} {h : XH} {Q : XV → XH → Prop} {X : Nat → XH → Prop} {v w : XV} (hI : decode M.2.1 pc = .ok (.dup_x1, 1)) (hv : xcat2 v = false) (hw : xcat2 w = false) (k : xwp G M d (pc + 1) L (v :: w :: v :: S) h Q X) : xwp G M d pc L (v :: w :: S) h Q X := x_pure k (fun hS _ => xac (xal1 hS).1 (xac (xal1 (xal1 hS).2).1 (xac (xal1 hS).1 (xal1 (xal1 hS).2).2))) (fun p e R s m args below meth c H locs cells slots Z ls F hL hS kk => by
  exact lv_dup_x1 F.1 F.2.1 hI (xcat_ne G hv) (xcat_ne G hw) (kk ls hL))
theorem xr_dup2 {G : XG} {M : XM} {d pc : Nat} {L S : List XV} {h : XH} {Q : XV → XH → Prop} {X : Nat → XH → Prop} {v w : XV} (hI : decode M.2.1 pc = .ok (.dup2, 1)) (hv : xcat2 v = false) (hw : xcat2 w = false) (k : xwp G M d (pc + 1) L (v :: w :: v :: w :: S) h Q X) : xwp G M d pc L (v :: w :: S) h Q X := x_pure k (fun hS _ => xac (xal1 hS).1 (xac (xal1 (xal1 hS).2).1 hS)) (fun p e R s m args below meth c H locs cells slots Z ls F hL hS kk => by
  exact lv_dup2_11 F.1 F.2.1 hI (xcat_ne G hv) (xcat_ne G hw) (kk ls hL))
theorem xr_dup2l {G : XG} {M : XM} {d pc : Nat} {L S : List XV} {h : XH} {Q : XV → XH → Prop} {X : Nat → XH → Prop} {v : XV} (hI : decode M.2.1 pc = .ok (.dup2, 1)) (hv : xcat2 v = true) (k : xwp G M d (pc + 1) L (v :: v :: S) h Q X) : xwp G M d pc L (v :: S) h Q X := x_pure k (fun hS _ => xac (xal1 hS).1 hS) (fun p e R s m args below meth c H locs cells slots Z ls F hL hS kk => by
  exact lv_dup2_2 F.1 F.2.1 hI (xcat_eq G hv) (kk ls hL))
theorem xr_pop2l {G : XG} {M : XM} {d pc : Nat} {L S : List XV} {h : XH} {Q : XV → XH → Prop} {X : Nat → XH → Prop} {v : XV} (hI : decode M.2.1 pc = .ok (.pop2, 1)) (hv : xcat2 v = true) (k : xwp G M d (pc + 1) L S h Q X) : xwp G M d pc L (v :: S) h Q X := x_pure k (fun hS _ => (xal1 hS).2) (fun p e R s m args below meth c H locs cells slots Z ls F hL hS kk => by
  exact lv_pop2_2 F.1 F.2.1 hI (xcat_eq G hv) (kk ls hL))
theorem xr_goto {G : XG} {M : XM} {d pc : Nat} {L S : List XV} {h : XH} {Q : XV → XH → Prop} {X : Nat → XH → Prop} {off : Int} {tgt : Nat} (hI : decode M.2.1 pc = .ok (.goto off, 3)) (ht : (pc : Int) + off = (tgt : Int)) (k : xwp G M d tgt L S h Q X) : xwp G M d pc L S h Q X := x_pure k (fun hS _ => hS) (fun p e R s m args below meth c H locs cells slots Z ls F hL hS kk => by
  exact lv_goto F.1 F.2.1 hI ht (kk ls hL))
theorem xr_icmp_eq {G : XG} {M : XM} {d pc : Nat} {L S : List XV} {h : XH} {Q : XV → XH → Prop} {X : Nat → XH → Prop} {a b : Int} {off : Int} {tgt : Nat} (hI : decode M.2.1 pc = .ok (.if_icmp .eq off, 3)) (ht : (pc : Int) + off = (tgt : Int)) (kt : a = b → xwp G M d tgt L S h Q X) (kf : ¬ a = b → xwp G M d (pc + 3) L S h Q X) : xwp G M d pc L (xI b :: xI a :: S) h Q X := by
  intro p e R s m args below meth c H locs ls F hH hL hS hz hy hlo
  have hb9 : xiR b := (xal1 hS).1
  have ha9 : xiR a := (xal1 (xal1 hS).2).1
  have hS2 := (xal1 (xal1 hS).2).2
  exact lv_icmp_eq F.1 F.2.1 hI ht (fun z => kt ((xi_eq ha9 hb9).mp z) p e R s m args below meth c H locs ls F hH hL hS2 hz hy hlo) (fun z => kf (fun q => z ((xi_eq ha9 hb9).mpr q)) p e R s m args below meth c H locs ls F hH hL hS2 hz hy hlo)
theorem xr_if_eq {G : XG} {M : XM} {d pc : Nat} {L S : List XV} {h : XH} {Q : XV → XH → Prop} {X : Nat → XH → Prop} {a : Int} {off : Int} {tgt : Nat} (hI : decode M.2.1 pc = .ok (.ifCond .eq off, 3)) (ht : (pc : Int) + off = (tgt : Int)) (kt : a = 0 → xwp G M d tgt L S h Q X) (kf : ¬ a = 0 → xwp G M d (pc + 3) L S h Q X) : xwp G M d pc L (xI a :: S) h Q X := by
  intro p e R s m args below meth c H locs ls F hH hL hS hz hy hlo
  have ha9 : xiR a := (xal1 hS).1
  have hb9 : xiR 0 := xi_z
  have hS2 := (xal1 hS).2
  exact lv_if_eq F.1 F.2.1 hI ht (fun z => kt ((xi_eq ha9 hb9).mp z) p e R s m args below meth c H locs ls F hH hL hS2 hz hy hlo) (fun z => kf (fun q => z ((xi_eq ha9 hb9).mpr q)) p e R s m args below meth c H locs ls F hH hL hS2 hz hy hlo)
theorem xr_icmp_ne {G : XG} {M : XM} {d pc : Nat} {L S : List XV} {h : XH} {Q : XV → XH → Prop} {X : Nat → XH → Prop} {a b : Int} {off : Int} {tgt : Nat} (hI : decode M.2.1 pc = .ok (.if_icmp .ne off, 3)) (ht : (pc : Int) + off = (tgt : Int)) (kt : ¬ a = b → xwp G M d tgt L S h Q X) (kf : a = b → xwp G M d (pc + 3) L S h Q X) : xwp G M d pc L (xI b :: xI a :: S) h Q X := by
  intro p e R s m args below meth c H locs ls F hH hL hS hz hy hlo
  have hb9 : xiR b := (xal1 hS).1
  have ha9 : xiR a := (xal1 (xal1 hS).2).1
  have hS2 := (xal1 (xal1 hS).2).2
  exact lv_icmp_ne F.1 F.2.1 hI ht (fun z => kt (fun q => z ((xi_eq ha9 hb9).mpr q)) p e R s m args below meth c H locs ls F hH hL hS2 hz hy hlo) (fun z => kf ((xi_eq ha9 hb9).mp z) p e R s m args below meth c H locs ls F hH hL hS2 hz hy hlo)
theorem xr_if_ne {G : XG} {M : XM} {d pc : Nat} {L S : List XV} {h : XH} {Q : XV → XH → Prop} {X : Nat → XH → Prop} {a : Int} {off : Int} {tgt : Nat} (hI : decode M.2.1 pc = .ok (.ifCond .ne off, 3)) (ht : (pc : Int) + off = (tgt : Int)) (kt : ¬ a = 0 → xwp G M d tgt L S h Q X) (kf : a = 0 → xwp G M d (pc + 3) L S h Q X) : xwp G M d pc L (xI a :: S) h Q X := by
  intro p e R s m args below meth c H locs ls F hH hL hS hz hy hlo
  have ha9 : xiR a := (xal1 hS).1
  have hb9 : xiR 0 := xi_z
  have hS2 := (xal1 hS).2
  exact lv_if_ne F.1 F.2.1 hI ht (fun z => kt (fun q => z ((xi_eq ha9 hb9).mpr q)) p e R s m args below meth c H locs ls F hH hL hS2 hz hy hlo) (fun z => kf ((xi_eq ha9 hb9).mp z) p e R s m args below meth c H locs ls F hH hL hS2 hz hy hlo)
theorem xr_icmp_lt {G : XG} {M : XM} {d pc : Nat} {L S : List XV} {h : XH} {Q : XV → XH → Prop} {X : Nat → XH → Prop} {a b : Int} {off : Int} {tgt : Nat} (hI : decode M.2.1 pc = .ok (.if_icmp .lt off, 3)) (ht : (pc : Int) + off = (tgt : Int)) (kt : a < b → xwp G M d tgt L S h Q X) (kf : ¬ a < b → xwp G M d (pc + 3) L S h Q X) : xwp G M d pc L (xI b :: xI a :: S) h Q X := by
  intro p e R s m args below meth c H locs ls F hH hL hS hz hy hlo
  have hb9 : xiR b := (xal1 hS).1
  have ha9 : xiR a := (xal1 (xal1 hS).2).1
  have hS2 := (xal1 (xal1 hS).2).2
  exact lv_icmp_lt F.1 F.2.1 hI ht (fun z => kt ((xi_lt ha9 hb9).mp z) p e R s m args below meth c H locs ls F hH hL hS2 hz hy hlo) (fun z => kf (fun q => z ((xi_lt ha9 hb9).mpr q)) p e R s m args below meth c H locs ls F hH hL hS2 hz hy hlo)
theorem xr_if_lt {G : XG} {M : XM} {d pc : Nat} {L S : List XV} {h : XH} {Q : XV → XH → Prop} {X : Nat → XH → Prop} {a : Int} {off : Int} {tgt : Nat} (hI : decode M.2.1 pc = .ok (.ifCond .lt off, 3)) (ht : (pc : Int) + off = (tgt : Int)) (kt : a < 0 → xwp G M d tgt L S h Q X) (kf : ¬ a < 0 → xwp G M d (pc + 3) L S h Q X) : xwp G M d pc L (xI a :: S) h Q X := by
  intro p e R s m args below meth c H locs ls F hH hL hS hz hy hlo
  have ha9 : xiR a := (xal1 hS).1
  have hb9 : xiR 0 := xi_z
  have hS2 := (xal1 hS).2
  exact lv_if_lt F.1 F.2.1 hI ht (fun z => kt ((xi_lt ha9 hb9).mp z) p e R s m args below meth c H locs ls F hH hL hS2 hz hy hlo) (fun z => kf (fun q => z ((xi_lt ha9 hb9).mpr q)) p e R s m args below meth c H locs ls F hH hL hS2 hz hy hlo)
theorem xr_icmp_ge {G : XG} {M : XM} {d pc : Nat} {L S : List XV} {h : XH} {Q : XV → XH → Prop} {X : Nat → XH → Prop} {a b : Int} {off : Int} {tgt : Nat} (hI : decode M.2.1 pc = .ok (.if_icmp .ge off, 3)) (ht : (pc : Int) + off = (tgt : Int)) (kt : b ≤ a → xwp G M d tgt L S h Q X) (kf : ¬ b ≤ a → xwp G M d (pc + 3) L S h Q X) : xwp G M d pc L (xI b :: xI a :: S) h Q X := by
  intro p e R s m args below meth c H locs ls F hH hL hS hz hy hlo
  have hb9 : xiR b := (xal1 hS).1
  have ha9 : xiR a := (xal1 (xal1 hS).2).1
  have hS2 := (xal1 (xal1 hS).2).2
  exact lv_icmp_ge F.1 F.2.1 hI ht (fun z => kt ((xi_le hb9 ha9).mp z) p e R s m args below meth c H locs ls F hH hL hS2 hz hy hlo) (fun z => kf (fun q => z ((xi_le hb9 ha9).mpr q)) p e R s m args below meth c H locs ls F hH hL hS2 hz hy hlo)
theorem xr_if_ge {G : XG} {M : XM} {d pc : Nat} {L S : List XV} {h : XH} {Q : XV → XH → Prop} {X : Nat → XH → Prop} {a : Int} {off : Int} {tgt : Nat} (hI : decode M.2.1 pc = .ok (.ifCond .ge off, 3)) (ht : (pc : Int) + off = (tgt : Int)) (kt : 0 ≤ a → xwp G M d tgt L S h Q X) (kf : ¬ 0 ≤ a → xwp G M d (pc + 3) L S h Q X) : xwp G M d pc L (xI a :: S) h Q X := by
  intro p e R s m args below meth c H locs ls F hH hL hS hz hy hlo
  have ha9 : xiR a := (xal1 hS).1
  have hb9 : xiR 0 := xi_z
  have hS2 := (xal1 hS).2
  exact lv_if_ge F.1 F.2.1 hI ht (fun z => kt ((xi_le hb9 ha9).mp z) p e R s m args below meth c H locs ls F hH hL hS2 hz hy hlo) (fun z => kf (fun q => z ((xi_le hb9 ha9).mpr q)) p e R s m args below meth c H locs ls F hH hL hS2 hz hy hlo)
theorem xr_icmp_gt {G : XG} {M : XM} {d pc : Nat} {L S : List XV} {h : XH} {Q : XV → XH → Prop} {X : Nat → XH → Prop} {a b : Int} {off : Int} {tgt : Nat} (hI : decode M.2.1 pc = .ok (.if_icmp .gt off, 3)) (ht : (pc : Int) + off = (tgt : Int)) (kt : b < a → xwp G M d tgt L S h Q X) (kf : ¬ b < a → xwp G M d (pc + 3) L S h Q X) : xwp G M d pc L (xI b :: xI a :: S) h Q X := by
  intro p e R s m args below meth c H locs ls F hH hL hS hz hy hlo
  have hb9 : xiR b := (xal1 hS).1
  have ha9 : xiR a := (xal1 (xal1 hS).2).1
  have hS2 := (xal1 (xal1 hS).2).2
  exact lv_icmp_gt F.1 F.2.1 hI ht (fun z => kt ((xi_lt hb9 ha9).mp z) p e R s m args below meth c H locs ls F hH hL hS2 hz hy hlo) (fun z => kf (fun q => z ((xi_lt hb9 ha9).mpr q)) p e R s m args below meth c H locs ls F hH hL hS2 hz hy hlo)
theorem xr_if_gt {G : XG} {M : XM} {d pc : Nat} {L S : List XV} {h : XH} {Q : XV → XH → Prop} {X : Nat → XH → Prop} {a : Int} {off : Int} {tgt : Nat} (hI : decode M.2.1 pc = .ok (.ifCond .gt off, 3)) (ht : (pc : Int) + off = (tgt : Int)) (kt : 0 < a → xwp G M d tgt L S h Q X) (kf : ¬ 0 < a → xwp G M d (pc + 3) L S h Q X) : xwp G M d pc L (xI a :: S) h Q X := by
  intro p e R s m args below meth c H locs ls F hH hL hS hz hy hlo
  have ha9 : xiR a := (xal1 hS).1
  have hb9 : xiR 0 := xi_z
  have hS2 := (xal1 hS).2
  exact lv_if_gt F.1 F.2.1 hI ht (fun z => kt ((xi_lt hb9 ha9).mp z) p e R s m args below meth c H locs ls F hH hL hS2 hz hy hlo) (fun z => kf (fun q => z ((xi_lt hb9 ha9).mpr q)) p e R s m args below meth c H locs ls F hH hL hS2 hz hy hlo)
theorem xr_icmp_le {G : XG} {M : XM} {d pc : Nat} {L S : List XV} {h : XH} {Q : XV → XH → Prop} {X : Nat → XH → Prop} {a b : Int} {off : Int} {tgt : Nat} (hI : decode M.2.1 pc = .ok (.if_icmp .le off, 3)) (ht : (pc : Int) + off = (tgt : Int)) (kt : a ≤ b → xwp G M d tgt L S h Q X) (kf : ¬ a ≤ b → xwp G M d (pc + 3) L S h Q X) : xwp G M d pc L (xI b :: xI a :: S) h Q X := by
  intro p e R s m args below meth c H locs ls F hH hL hS hz hy hlo
  have hb9 : xiR b := (xal1 hS).1
  have ha9 : xiR a := (xal1 (xal1 hS).2).1
  have hS2 := (xal1 (xal1 hS).2).2
  exact lv_icmp_le F.1 F.2.1 hI ht (fun z => kt ((xi_le ha9 hb9).mp z) p e R s m args below meth c H locs ls F hH hL hS2 hz hy hlo) (fun z => kf (fun q => z ((xi_le ha9 hb9).mpr q)) p e R s m args below meth c H locs ls F hH hL hS2 hz hy hlo)
theorem xr_if_le {G : XG} {M : XM} {d pc : Nat} {L S : List XV} {h : XH} {Q : XV → XH → Prop} {X : Nat → XH → Prop} {a : Int} {off : Int} {tgt : Nat} (hI : decode M.2.1 pc = .ok (.ifCond .le off, 3)) (ht : (pc : Int) + off = (tgt : Int)) (kt : a ≤ 0 → xwp G M d tgt L S h Q X) (kf : ¬ a ≤ 0 → xwp G M d (pc + 3) L S h Q X) : xwp G M d pc L (xI a :: S) h Q X := by
  intro p e R s m args below meth c H locs ls F hH hL hS hz hy hlo
  have ha9 : xiR a := (xal1 hS).1
  have hb9 : xiR 0 := xi_z
  have hS2 := (xal1 hS).2
  exact lv_if_le F.1 F.2.1 hI ht (fun z => kt ((xi_le ha9 hb9).mp z) p e R s m args below meth c H locs ls F hH hL hS2 hz hy hlo) (fun z => kf (fun q => z ((xi_le ha9 hb9).mpr q)) p e R s m args below meth c H locs ls F hH hL hS2 hz hy hlo)
theorem xr_ifnull {G : XG} {M : XM} {d pc : Nat} {L S : List XV} {h : XH} {Q : XV → XH → Prop} {X : Nat → XH → Prop} {a : Int} {off : Int} {tgt : Nat} (hI : decode M.2.1 pc = .ok (.ifnull off, 3)) (ht : (pc : Int) + off = (tgt : Int)) (kt : a = -1 → xwp G M d tgt L S h Q X) (kf : ¬ a = -1 → xwp G M d (pc + 3) L S h Q X) : xwp G M d pc L (xR a :: S) h Q X := by
  intro p e R s m args below meth c H locs ls F hH hL hS hz hy hlo
  have hS2 := (xal1 hS).2
  show W p (gl G) e R s m args below meth c H locs _ _ _ (F0 m pc ls (xadr G a :: S.map (xcv G)))
  rcases xadr_cases G a with ⟨q, hn, eq⟩ | ⟨hn, eq⟩
  · rw [eq]; exact lv_ifnull F.1 F.2.1 hI (kf hn p e R s m args below meth c H locs ls F hH hL hS2 hz hy hlo)
  · rw [eq]; exact lv_ifnullN F.1 F.2.1 hI ht (kt hn p e R s m args below meth c H locs ls F hH hL hS2 hz hy hlo)
theorem xr_ifnonnull {G : XG} {M : XM} {d pc : Nat} {L S : List XV} {h : XH} {Q : XV → XH → Prop} {X : Nat → XH → Prop} {a : Int} {off : Int} {tgt : Nat} (hI : decode M.2.1 pc = .ok (.ifnonnull off, 3)) (ht : (pc : Int) + off = (tgt : Int)) (kt : ¬ a = -1 → xwp G M d tgt L S h Q X) (kf : a = -1 → xwp G M d (pc + 3) L S h Q X) : xwp G M d pc L (xR a :: S) h Q X := by
  intro p e R s m args below meth c H locs ls F hH hL hS hz hy hlo
  have hS2 := (xal1 hS).2
  show W p (gl G) e R s m args below meth c H locs _ _ _ (F0 m pc ls (xadr G a :: S.map (xcv G)))
  rcases xadr_cases G a with ⟨q, hn, eq⟩ | ⟨hn, eq⟩
  · rw [eq]; exact lv_ifnonnull F.1 F.2.1 hI ht (kt hn p e R s m args below meth c H locs ls F hH hL hS2 hz hy hlo)
  · rw [eq]; exact lv_ifnonnullN F.1 F.2.1 hI (kf hn p e R s m args below meth c H locs ls F hH hL hS2 hz hy hlo)
theorem xsub_get : ∀ (A B : List XV), xsub A B = true → ∀ (i : Nat) (v : XV), A[i]? = some v → v.1 < 7 → B[i]? = some v
  | [], _, _, i, v, h, _ => by simp at h
  | a :: A, [], h, _, _, _, _ => by simp [xsub] at h
  | a :: A, b :: B, h, i, v, hi, hv => by
    simp only [xsub, Bool.and_eq_true, Bool.or_eq_true, decide_eq_true_eq] at h
    cases i with
    | zero =>
      simp only [List.getElem?_cons_zero, Option.some.injEq] at hi ⊢
      subst hi
      rcases h.1 with q | q
      · omega
      · exact q.symm
    | succ i =>
      rw [List.getElem?_cons_succ] at hi ⊢
      exact xsub_get A B h.2 i v hi hv
theorem xLR_drop {G : XG} {nL : Nat} {A B : List XV} {ls : Array Slot} (h : xLR G nL B ls) (hs : ∀ (i : Nat) (v : XV), A[i]? = some v → v.1 < 7 → B[i]? = some v) : xLR G nL A ls := by
  refine ⟨⟨h.1.1, h.1.2.1, fun q hq => ?_⟩, fun v hv hv7 => ?_⟩
  · obtain ⟨i, v, h1, h2, h3⟩ := (xlvl_mem G A 0 q).mp hq
    exact h.1.2.2 q ((xlvl_mem G B 0 q).mpr ⟨i, v, hs i v h1 h2, h2, h3⟩)
  · obtain ⟨i, hi⟩ := List.getElem?_of_mem hv
    exact h.2 v (List.mem_of_getElem? (hs i v hi hv7)) hv7
theorem xr_drop {G : XG} {M : XM} {d pc : Nat} {L S : List XV} {h : XH} {Q : XV → XH → Prop} {X : Nat → XH → Prop} {L9 : List XV} (hs : ∀ (i : Nat) (v : XV), L9[i]? = some v → v.1 < 7 → L[i]? = some v) (k : xwp G M d pc L9 S h Q X) : xwp G M d pc L S h Q X := x_pure k (fun hS _ => hS) (fun p e R s m args below meth c H locs cells slots Z ls F hL hS kk => by
  exact kk ls (xLR_drop hL hs))
theorem xdr0 {B : List XV} : ∀ (i : Nat) (v : XV), ([] : List XV)[i]? = some v → v.1 < 7 → B[i]? = some v := fun i v h => by simp at h
theorem xdrs {a : XV} {A B : List XV} (h : ∀ (i : Nat) (v : XV), A[i]? = some v → v.1 < 7 → B[i]? = some v) : ∀ (i : Nat) (v : XV), (a :: A)[i]? = some v → v.1 < 7 → (a :: B)[i]? = some v := fun i v hi hv => by
  cases i with
  | zero => exact hi
  | succ i => exact h i v hi hv
theorem xdrz {b : XV} {A B : List XV} (h : ∀ (i : Nat) (v : XV), A[i]? = some v → v.1 < 7 → B[i]? = some v) : ∀ (i : Nat) (v : XV), (xZ :: A)[i]? = some v → v.1 < 7 → (b :: B)[i]? = some v := fun i v hi hv => by
  cases i with
  | zero =>
    simp only [List.getElem?_cons_zero, Option.some.injEq] at hi
    subst hi
    exact absurd hv (by decide)
  | succ i => exact h i v hi hv
theorem xr_okS {G : XG} {M : XM} {d pc : Nat} {L S : List XV} {h : XH} {Q : XV → XH → Prop} {X : Nat → XH → Prop} (k : (∀ v ∈ S, xok v) → xwp G M d pc L S h Q X) : xwp G M d pc L S h Q X := by
  intro p e R s m args below meth c H locs ls F hH hL hS hz hy hlo
  exact k hS p e R s m args below meth c H locs ls F hH hL hS hz hy hlo
theorem xr_okL {G : XG} {M : XM} {d pc : Nat} {L S : List XV} {h : XH} {Q : XV → XH → Prop} {X : Nat → XH → Prop} (k : (∀ v ∈ L, v.1 < 7 → xok v) → xwp G M d pc L S h Q X) : xwp G M d pc L S h Q X := by
  intro p e R s m args below meth c H locs ls F hH hL hS hz hy hlo
  exact k hL.2 p e R s m args below meth c H locs ls F hH hL hS hz hy hlo
theorem xr_eqS {G : XG} {M : XM} {d pc : Nat} {L S : List XV} {h : XH} {Q : XV → XH → Prop} {X : Nat → XH → Prop} {S9 : List XV} (e9 : S = S9) (k : xwp G M d pc L S9 h Q X) : xwp G M d pc L S h Q X := by rw [e9]; exact k
theorem xr_ireturn {G : XG} {M : XM} {d pc : Nat} {L S : List XV} {h : XH} {Q : XV → XH → Prop} {X : Nat → XH → Prop} {a : Int} (hI : decode M.2.1 pc = .ok (.ireturn, 1)) (hr : M.2.2.2.1 = some .int) (k : Q (xI a) h) : xwp G M d pc L [xI a] h Q X := by
  intro p e R s m args below meth c H locs ls F hH hL hS hz hy hlo
  refine vx_ret (W.widen (k := R.cells) (n := R.slots) ?_ ?_ ?_)
  · have := F.2.2.2.2.2.2.2.2.2.1; have := hH.1; have := hH.2.2.1; omega
  · have := F.2.2.2.2.2.2.2.2.2.2.1; have := hH.2.2.2.1; have := hH.2.2.2.2.1; omega
  · exact W.iret F.1 F.2.1 (F.2.2.2.1.trans hr) (fun t ht _ => ⟨xI a, h, rfl, Or.inr ⟨Nat.le_of_ble_eq_true rfl, (xal1 hS).1⟩, by rw [ht]; exact hH, k⟩) hlo hI F.2.2.2.2.1
theorem xr_lreturn {G : XG} {M : XM} {d pc : Nat} {L S : List XV} {h : XH} {Q : XV → XH → Prop} {X : Nat → XH → Prop} {a : Int} (hI : decode M.2.1 pc = .ok (.lreturn, 1)) (hr : M.2.2.2.1 = some .long) (k : Q (xL a) h) : xwp G M d pc L [xL a] h Q X := by
  intro p e R s m args below meth c H locs ls F hH hL hS hz hy hlo
  refine vx_ret (W.widen (k := R.cells) (n := R.slots) ?_ ?_ ?_)
  · have := F.2.2.2.2.2.2.2.2.2.1; have := hH.1; have := hH.2.2.1; omega
  · have := F.2.2.2.2.2.2.2.2.2.2.1; have := hH.2.2.2.1; have := hH.2.2.2.2.1; omega
  · exact W.lret F.1 F.2.1 (F.2.2.2.1.trans hr) (fun t ht _ => ⟨xL a, h, rfl, Or.inr ⟨Nat.le_of_ble_eq_true rfl, (xal1 hS).1⟩, by rw [ht]; exact hH, k⟩) hlo hI F.2.2.2.2.1
theorem xr_dreturn {G : XG} {M : XM} {d pc : Nat} {L S : List XV} {h : XH} {Q : XV → XH → Prop} {X : Nat → XH → Prop} {a : Int} (hI : decode M.2.1 pc = .ok (.dreturn, 1)) (hr : M.2.2.2.1 = some .double) (k : Q (xD a) h) : xwp G M d pc L [xD a] h Q X := by
  intro p e R s m args below meth c H locs ls F hH hL hS hz hy hlo
  refine vx_ret (W.widen (k := R.cells) (n := R.slots) ?_ ?_ ?_)
  · have := F.2.2.2.2.2.2.2.2.2.1; have := hH.1; have := hH.2.2.1; omega
  · have := F.2.2.2.2.2.2.2.2.2.2.1; have := hH.2.2.2.1; have := hH.2.2.2.2.1; omega
  · exact W.dret F.1 F.2.1 (F.2.2.2.1.trans hr) (fun t ht _ => ⟨xD a, h, rfl, Or.inr ⟨Nat.le_of_ble_eq_true rfl, (xal1 hS).1⟩, by rw [ht]; exact hH, k⟩) hlo hI F.2.2.2.2.1
theorem xr_return {G : XG} {M : XM} {d pc : Nat} {L S : List XV} {h : XH} {Q : XV → XH → Prop} {X : Nat → XH → Prop} (hI : decode M.2.1 pc = .ok (.return_, 1)) (hr : M.2.2.2.1 = none) (k : Q xN h) : xwp G M d pc L [] h Q X := by
  intro p e R s m args below meth c H locs ls F hH hL hS hz hy hlo
  refine vx_ret (W.widen (k := R.cells) (n := R.slots) ?_ ?_ ?_)
  · have := F.2.2.2.2.2.2.2.2.2.1; have := hH.1; have := hH.2.2.1; omega
  · have := F.2.2.2.2.2.2.2.2.2.2.1; have := hH.2.2.2.1; have := hH.2.2.2.2.1; omega
  · exact W.vret F.1 F.2.1 (F.2.2.2.1.trans hr) (fun t ht _ => ⟨xN, h, rfl, Or.inl rfl, by rw [ht]; exact hH, k⟩) hlo hI F.2.2.2.2.1
end XP
