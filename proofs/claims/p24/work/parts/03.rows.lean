/-! rows over the heap, in the words of the world -/
section RX
variable {p : Program} {l : Launch} {e : Env} {R : Room} {s : State} {m : MethodId} {args : Array Value} {below : List Frame} {meth : Method} {c : Code} {H : Heap} {locs : List Loc} {cells slots : Nat} {Q : State → Prop}
variable {cc : ByteArray} {nL : Nat} {own : String} {Ts : List Cond} {G : GG} {pc : Nat} {ls : Array Slot} {rest : List Value} {lv lv' : List (Nat × Value)} {w : Wd}
theorem MC.kI (M : MC p s m args meth c cc nL own Ts G) : ArrOfT s G.2.2.1 .int := (M.2.2.2.2.2.2.1.2 0 _ rfl).1
theorem MC.kZ (M : MC p s m args meth c cc nL own Ts G) : ArrOfT s G.2.2.2.1 .boolean := (M.2.2.2.2.2.2.1.2 1 _ rfl).1
theorem MC.kS (M : MC p s m args meth c cc nL own Ts G) : ArrOfT s G.2.2.2.2.1 (.object "NamedMoves$Store") := (M.2.2.2.2.2.2.1.2 2 _ rfl).1
theorem MC.kL (M : MC p s m args meth c cc nL own Ts G) : ArrOfT s G.2.2.2.2.2 .long := (M.2.2.2.2.2.2.1.2 3 _ rfl).1
theorem x_iald (M : MC p s m args meth c cc nL own Ts G) (hS : ST G s w H locs) {c0 t0 n : Nat} (ok : okc c0 t0) (hs : ∀ w' : Wd, sE G w' c0 t0 = arI G n (w' c0 t0)) {i : Int} {N : Int} (hN : N = (n : Int)) (hi : 0 ≤ i ∧ i < N) (hn : n < 2147483648) (hdg : decode cc pc = .ok (.iaload, 1)) (kk : W p l e R s m args below meth c H locs cells slots Q (F0 m (pc + 1) ls (iV (w c0 t0 i.toNat) :: rest))) : W p l e R s m args below meth c H locs cells slots Q (F0 m pc ls (iV i :: .ref (G.1 c0 t0) :: rest)) := by
  subst hN
  have h1 := hS.at ok
  rw [hs] at h1
  have h2 : H[G.1 c0 t0]? = some (arrV G.2.2.1 n (fun j => .int (Int32.ofInt (w c0 t0 j)))) := h1
  have hin := o_in hi hn
  have hc : (Int32.ofInt i).toNatClampNeg = i.toNat := o_clamp ⟨by omega, by omega⟩
  exact W.iald (v := iV (w c0 t0 i.toNat)) M.1 M.2.1 h2 (M.kI n _) (fun q => by cases q) (by rw [arrV_size]; exact hin) (by rw [hc, arrV_read _ _ (by omega)]) rfl rfl hdg kk
theorem x_zald (M : MC p s m args meth c cc nL own Ts G) (hS : ST G s w H locs) {c0 t0 n : Nat} (ok : okc c0 t0) (hs : ∀ w' : Wd, sE G w' c0 t0 = arZ G n (w' c0 t0)) {i : Int} {N : Int} (hN : N = (n : Int)) (hi : 0 ≤ i ∧ i < N) (hn : n < 2147483648) (hdg : decode cc pc = .ok (.baload, 1)) (kk : W p l e R s m args below meth c H locs cells slots Q (F0 m (pc + 1) ls (iV (w c0 t0 i.toNat) :: rest))) : W p l e R s m args below meth c H locs cells slots Q (F0 m pc ls (iV i :: .ref (G.1 c0 t0) :: rest)) := by
  subst hN
  have h1 := hS.at ok
  rw [hs] at h1
  have h2 : H[G.1 c0 t0]? = some (arrV G.2.2.2.1 n (fun j => .int (Int32.ofInt (w c0 t0 j)))) := h1
  have hin := o_in hi hn
  have hc : (Int32.ofInt i).toNatClampNeg = i.toNat := o_clamp ⟨by omega, by omega⟩
  exact W.zald (v := iV (w c0 t0 i.toNat)) M.1 M.2.1 h2 (M.kZ n _) (fun q => by cases q) (by rw [arrV_size]; exact hin) (by rw [hc, arrV_read _ _ (by omega)]) rfl rfl hdg kk
theorem x_aald (M : MC p s m args meth c cc nL own Ts G) (hS : ST G s w H locs) {i : Int} (hi : 0 ≤ i ∧ i < 6) (hdg : decode cc pc = .ok (.aaload, 1)) (kk : W p l e R s m args below meth c H locs cells slots Q (F0 m (pc + 1) ls (.ref (G.1 0 (i.toNat + 2)) :: rest))) : W p l e R s m args below meth c H locs cells slots Q (F0 m pc ls (iV i :: .ref (G.1 12 0) :: rest)) := by
  have h1 := hS.at (c := 12) (t := 0) (by decide)
  have h2 : H[G.1 12 0]? = some (arrV G.2.2.2.2.1 6 (fun j => va_rf (some (G.1 0 (j + 2))))) := h1
  have hin := o_in (n := 6) hi (by decide)
  have hc : (Int32.ofInt i).toNatClampNeg = i.toNat := o_clamp ⟨by omega, by omega⟩
  exact W.aald (v := .ref (G.1 0 (i.toNat + 2))) (ty := .object "NamedMoves$Store") M.1 M.2.1 h2 (M.kS 6 _) rfl (fun q => by cases q) (by rw [arrV_size]; exact hin) (by rw [hc, arrV_read _ _ (by omega)]; rfl) rfl rfl hdg kk
theorem up_off {w : Wd} {c0 t0 i : Nat} {z : Int} : ∀ c' t', ¬ (c' = c0 ∧ t' = t0) → ∀ j, w c' t' j = up w c0 t0 i z c' t' j := by
  intro c' t' h j
  unfold up
  rw [if_neg (fun q => h ⟨q.1, q.2.1⟩)]
theorem up_inr {w : Wd} {c0 t0 i : Nat} {z : Int} (hz : InR z) (h : ∀ c t i, InC c (w c t i)) (c' t' j : Nat) : InC c' (up w c0 t0 i z c' t' j) := by
  unfold up
  split
  · exact inC_of hz
  · exact h _ _ _
theorem x_iast (M : MC p s m args meth c cc nL own Ts G) (hS : ST G s w H locs) {c0 t0 n : Nat} (ok : okc c0 t0) (hs : ∀ w' : Wd, sE G w' c0 t0 = arI G n (w' c0 t0)) {i z : Int} {N : Int} (hN : N = (n : Int)) (hi : 0 ≤ i ∧ i < N) (hn : n < 2147483648) (hz : InR z) (hdg : decode cc pc = .ok (.iastore, 1)) (kk : ∀ (H1 : Heap) (locs1 : List Loc), ST G s (up w c0 t0 i.toNat z) H1 locs1 → W p l e R s m args below meth c H1 locs1 cells slots Q (F0 m (pc + 1) ls rest)) : W p l e R s m args below meth c H locs cells slots Q (F0 m pc ls (iV z :: iV i :: .ref (G.1 c0 t0) :: rest)) := by
  subst hN
  have h1 := hS.at ok
  rw [hs] at h1
  have h2 : H[G.1 c0 t0]? = some (arrV G.2.2.1 n (fun j => .int (Int32.ofInt (w c0 t0 j)))) := h1
  have hin := o_in hi hn
  have hc : (Int32.ofInt i).toNatClampNeg = i.toNat := o_clamp ⟨by omega, by omega⟩
  refine W.iast M.1 M.2.1 h2 (M.kI n _) (fun q => by cases q) (by rw [arrV_size]; exact hin) rfl rfl hdg fun H1 e1 z1 oq => ?_
  refine kk H1 _ (hS.step ok up_off (fun j => up_inr hz hS.1.2.2 _ _ _) ?_ z1 oq)
  rw [hs]
  show H1[G.1 c0 t0]? = some (arrV G.2.2.1 n (fun j => .int (Int32.ofInt (up w c0 t0 i.toNat z c0 t0 j))))
  rw [e1, arrV_store, hc]
  congr 2
  funext q
  by_cases hq : q = i.toNat
  · subst hq
    simp [updV, up]
  · simp [updV, up, hq]
theorem o_bool {z : Int} (h : z = 0 ∨ z = 1) (ty : FieldType) (ht : ty = .boolean) : narrow ty (iV z) = iV z := by
  subst ht
  rcases h with rfl | rfl <;> decide
theorem x_zast (M : MC p s m args meth c cc nL own Ts G) (hS : ST G s w H locs) {c0 t0 n : Nat} (ok : okc c0 t0) (hs : ∀ w' : Wd, sE G w' c0 t0 = arZ G n (w' c0 t0)) {i z : Int} {N : Int} (hN : N = (n : Int)) (hi : 0 ≤ i ∧ i < N) (hn : n < 2147483648) (hz : z = 0 ∨ z = 1) (hdg : decode cc pc = .ok (.bastore, 1)) (kk : ∀ (H1 : Heap) (locs1 : List Loc), ST G s (up w c0 t0 i.toNat z) H1 locs1 → W p l e R s m args below meth c H1 locs1 cells slots Q (F0 m (pc + 1) ls rest)) : W p l e R s m args below meth c H locs cells slots Q (F0 m pc ls (iV z :: iV i :: .ref (G.1 c0 t0) :: rest)) := by
  subst hN
  have h1 := hS.at ok
  rw [hs] at h1
  have h2 : H[G.1 c0 t0]? = some (arrV G.2.2.2.1 n (fun j => .int (Int32.ofInt (w c0 t0 j)))) := h1
  have hin := o_in hi hn
  have hc : (Int32.ofInt i).toNatClampNeg = i.toNat := o_clamp ⟨by omega, by omega⟩
  refine W.zast M.1 M.2.1 h2 (M.kZ n _) (fun q => by cases q) (by rw [arrV_size]; exact hin) rfl rfl hdg fun H1 e1 z1 oq => ?_
  refine kk H1 _ (hS.step ok up_off (fun j => up_inr ⟨by omega, by omega⟩ hS.1.2.2 _ _ _) ?_ z1 oq)
  rw [hs]
  show H1[G.1 c0 t0]? = some (arrV G.2.2.2.1 n (fun j => .int (Int32.ofInt (up w c0 t0 i.toNat z c0 t0 j))))
  rw [e1, o_bool hz _ rfl, arrV_store, hc]
  congr 2
  funext q
  by_cases hq : q = i.toNat
  · subst hq
    simp [updV, up]
  · simp [updV, up, hq]
theorem x_get (M : MC p s m args meth c cc nL own Ts G) (hS : ST G s w H locs) {c0 t0 : Nat} (ok : okc c0 t0) {ref C : String} {T : u_T} {N ci index : Nat} (hin : ∀ w ∈ u_ws C T N, w ∈ Ts) {fs : List Value} (he : sE G w c0 t0 = .inr (ci, fs)) (hc : vwCl[ci]? = some (C, T, N)) (k : Nat) (hk : k < N) (hlink : (Cond.fieldLink own index ref (T k).2.1 (T k).2.2.1).before args s = true) (hsame : (T k).1 = ref) {v : Value} (hv : fs[k]? = some v) (hdg : decode cc pc = .ok (.getfield index, 3))
    (kk : W p l e R s m args below meth c H locs cells slots Q (F0 m (pc + 3) ls (v :: rest))) : W p l e R s m args below meth c H locs cells slots Q (F0 m pc ls (.ref (G.1 c0 t0) :: rest)) := by
  subst hsame
  have h1 := hS.at ok
  rw [he] at h1
  have hP : va_P G.2.1 vwCl [(G.1 c0 t0, .inr (ci, fs))] H := fun j q hq => by
    match j, hq with
    | 0, hq => cases hq; exact h1
    | j + 1, hq => simp at hq
  exact va_get (D := G.2.1) M.1 M.2.1 M.2.2.2.2.1 hin M.2.2.2.1 M.2.2.2.2.2.2.1 hP 0 rfl hc k hk hlink (fun _ h => h) hv hdg kk
theorem x_getN (M : MC p s m args meth c cc nL own Ts G) (hS : ST G s w H locs) {c0 t0 : Nat} (ok : okc c0 t0) {ref C host : String} {T : u_T} {N ci index : Nat} (hin : ∀ w ∈ u_ws C T N, w ∈ Ts) {fs : List Value} (he : sE G w c0 t0 = .inr (ci, fs)) (hc : vwCl[ci]? = some (C, T, N)) (k : Nat) (hk : k < N) (hlink : va_Nw (.fieldLinkNest own index ref (T k).2.1 (T k).2.2.1 host) s) (hsame : (T k).1 = ref) {v : Value} (hv : fs[k]? = some v) (hdg : decode cc pc = .ok (.getfield index, 3))
    (kk : W p l e R s m args below meth c H locs cells slots Q (F0 m (pc + 3) ls (v :: rest))) : W p l e R s m args below meth c H locs cells slots Q (F0 m pc ls (.ref (G.1 c0 t0) :: rest)) := by
  subst hsame
  have h1 := hS.at ok
  rw [he] at h1
  have hP : va_P G.2.1 vwCl [(G.1 c0 t0, .inr (ci, fs))] H := fun j q hq => by
    match j, hq with
    | 0, hq => cases hq; exact h1
    | j + 1, hq => simp at hq
  exact va_getN (D := G.2.1) M.1 M.2.1 M.2.2.2.2.1 hin M.2.2.2.1 M.2.2.2.2.2.2.1 hP 0 rfl hc k hk (va_Nw.use rfl hlink) (fun _ h => h) hv hdg kk
theorem x_put (M : MC p s m args meth c cc nL own Ts G) (hS : ST G s w H locs) {c0 t0 : Nat} (ok : okc c0 t0) {ref C : String} {T : u_T} {N ci index : Nat} (hin : ∀ w ∈ u_ws C T N, w ∈ Ts) (ty0 : Nat → FieldType) (hty : ∀ k, k < N → parseFieldDescriptor (T k).2.2.1 = some (ty0 k)) (hnm : ∀ a, a < N → ∀ b, b < N → a ≠ b → (T a).2.1 ≠ (T b).2.1) {fs : List Value} (he : sE G w c0 t0 = .inr (ci, fs)) (hc : vwCl[ci]? = some (C, T, N)) (k : Nat) (hk : k < N) (hlink : (Cond.fieldLink own index ref (T k).2.1 (T k).2.2.1).before args s = true) (hsame : (T k).1 = ref) (hfin : (T k).2.2.2 = false) {ty : FieldType} {z : Int} (hz : InR z) (hd : parseFieldDescriptor (T k).2.2.1 = some ty) (hn : narrow ty (iV z) = iV z) (hfit : fits ty (iV z) = true) (hl : k < fs.length) (i : Nat) (hset : sE G (up w c0 t0 i z) c0 t0 = .inr (ci, fs.set k (iV z)))
    (hdg : decode cc pc = .ok (.putfield index, 3)) (kk : ∀ (H1 : Heap) (locs1 : List Loc), ST G s (up w c0 t0 i z) H1 locs1 → W p l e R s m args below meth c H1 locs1 cells slots Q (F0 m (pc + 3) ls rest)) : W p l e R s m args below meth c H locs cells slots Q (F0 m pc ls (iV z :: .ref (G.1 c0 t0) :: rest)) := by
  subst hsame
  have hat := hS.at ok
  rw [he] at hat
  have hts := M.2.2.2.2.1
  have hap := va_apart (own := own) hts hin ty0 hty hnm M.2.2.2.2.2.2.1 hc
  obtain ⟨r, h1, cell, q1, q2, q3, q4⟩ := hat
  have hr : r = (C, T, N) := Option.some.inj (h1.symm.trans hc)
  subst hr
  obtain ⟨hSl, hfc, kC, hkC, hkind⟩ := M.2.2.2.2.2.2.1.1 ci _ hc
  obtain ⟨cf, kf, fi, f, hi, hsl⟩ := hSl k hk
  have hlay := hts _ (hin _ (u_in_lay hk))
  unfold u_lay at hlay
  rw [if_neg (by rw [hfin]; decide)] at hlay
  have hst := (u_facts hfc hkC (u_lays hts hin hk) hi).1
  have h6 := u_store hfc hkC hkind hlay hi hd hn hfit
  refine W.putK M.1 M.2.1 (f := f) ⟨M.2.2.2.1, hlink, ⟨_, _, _, hi⟩, hst⟩ (by rw [q2]; exact h6) q1 q3 (by rw [hsl]; exact k2_hasslot (q4 k hk)) rfl rfl hdg fun H' e1 e2 e3 => ?_
  refine kk H' _ (hS.step ok up_off (fun j => up_inr hz hS.1.2.2 _ _ _) ?_ e2 e3)
  rw [hset]
  rw [hsl] at e1
  exact ⟨_, hc, t_OB.to (V := updV (vp_V fs) k (iV z)) ⟨_, e1, q2, q3, t_set q4 hap hk (iV z)⟩ (fun j _ => vp_updV_set hl (iV z) j)⟩
theorem cpy_off {w : Wd} {c0 t0 c1 t1 n : Nat} : ∀ c' t', ¬ (c' = c1 ∧ t' = t1) → ∀ j, w c' t' j = cpy w c0 t0 c1 t1 n c' t' j := by
  intro c' t' h j
  unfold cpy
  rw [if_neg (fun q => h ⟨q.1, q.2.1⟩)]
theorem cpy_inr {w : Wd} {c0 t0 c1 t1 n : Nat} (h : ∀ c t i, InC c (w c t i)) (h0 : c0 < 21) (c' t' j : Nat) : InC c' (cpy w c0 t0 c1 t1 n c' t' j) := by
  unfold cpy
  split
  · have := h c0 t0 j
    unfold InC at this
    rw [if_pos h0] at this
    exact inC_of this
  · exact h _ _ _
theorem ST.many {G : GG} {s : State} {w w' : Wd} {H H1 : Heap} {locs L : List Loc} (h : ST G s w H locs) {c t : Nat} (ok : okc c t) (hw : ∀ c' t', ¬ (c' = c ∧ t' = t) → ∀ i, w c' t' i = w' c' t' i) (hr : ∀ i, InC c (w' c t i)) (hat : va_at G.2.1 vwCl (G.1 c t, sE G w' c t) H1) (z : H1.size = H.size) (oq : ∀ q : Nat, q ≠ G.1 c t → H1[q]? = H[q]?) (hL : ∀ q ∈ L, q.base = G.1 c t) : ST G s w' H1 (locs ++ L) := by
  have h1 := h.step (k := 0) ok hw hr hat z oq
  refine ⟨h1.1, h1.2.1, h1.2.2.1, fun q hq => ?_⟩
  rcases List.mem_append.mp hq with hq | hq
  · exact h.2.2.2 q hq
  · exact ⟨c, t, ok, hL q hq⟩
theorem x_copy (M : MC p s m args meth c cc nL own Ts G) (hl : lv_has ls nL lv) (hS : ST G s w H locs) {index : Nat} (hlink : (Cond.methodLink own index arraycopyName).before args s = true) (hnat : (Cond.native arraycopyName).before args s = true) (hstat : (Cond.static arraycopyName).before args s = true) (hini : (Cond.initialized "java/lang/System").before args s = true)
    {c0 t0 c1 t1 n0 n1 : Nat} (ok0 : okc c0 t0) (ok1 : okc c1 t1) (hs0 : ∀ w' : Wd, sE G w' c0 t0 = arI G n0 (w' c0 t0)) (hs1 : ∀ w' : Wd, sE G w' c1 t1 = arI G n1 (w' c1 t1)) {N : Int} (n : Nat) (hN : N = (n : Int)) (hb : n < 2147483648) (h4 : n ≤ n0) (h5 : n ≤ n1)
    (hframes : 1 ≤ R.frames) (hlocals : (rest.map fun v => v.category).sum + (nativeFrameWords "java/lang/System" "arraycopy" 5 + 11) ≤ R.locals) (hdg : decode cc pc = .ok (.invokestatic index, 3))
    (kk : ∀ (H1 : Heap) (locs1 : List Loc), ST G s (cpy w c0 t0 c1 t1 n) H1 locs1 → W p l e R s m args below meth c H1 locs1 cells slots Q (F0 m (pc + 3) ls rest)) (h021 : c0 < 21 := by decide) : W p l e R s m args below meth c H locs cells slots Q (F0 m pc ls (iV N :: iV 0 :: .ref (G.1 c1 t1) :: iV 0 :: .ref (G.1 c0 t0) :: rest)) := by
  subst hN
  have nn : InR (n : Int) := ⟨by omega, by omega⟩
  have z0 : InR 0 := ⟨by decide, by decide⟩
  have hnt : (Int32.ofInt (n : Int)).toInt = n := o_toInt nn
  have h0t : (Int32.ofInt 0).toInt = 0 := o_toInt z0
  have hnc : (Int32.ofInt (n : Int)).toNatClampNeg = n := by rw [o_clamp nn]; rfl
  have h0c : (Int32.ofInt 0).toNatClampNeg = 0 := by rw [o_clamp z0]; rfl
  have hc0 := hS.at ok0
  rw [hs0] at hc0
  have hc0 : H[G.1 c0 t0]? = some (vp_cell G.2.2.1 (n0, .inl (fun j => Int32.ofInt (w c0 t0 j)))) := hc0
  have hc1 := hS.at ok1
  rw [hs1] at hc1
  have hc1 : H[G.1 c1 t1]? = some (vp_cell G.2.2.1 (n1, .inl (fun j => Int32.ofInt (w c1 t1 j)))) := hc1
  intro T hT X
  obtain ⟨-, k0, hk0, cm0, hkk0⟩ := M.kI n0 (fun j => .int (Int32.ofInt (w c0 t0 j)))
  obtain ⟨-, k1, hk1, cm1, hkk1⟩ := M.kI n1 (fun j => .int (Int32.ofInt (w c1 t1 j)))
  obtain ⟨vm', X', step⟩ := X.arraycopy M.1 M.2.2.2.1 hlink hnat hstat hini (src := G.1 c0 t0) (dst := G.1 c1 t1) (cs := vp_cell G.2.2.1 (n0, .inl (fun j => Int32.ofInt (w c0 t0 j)))) (cd := vp_cell G.2.2.1 (n1, .inl (fun j => Int32.ofInt (w c1 t1 j)))) (srcPos := Int32.ofInt 0) (destPos := Int32.ofInt 0) (n := Int32.ofInt n) (by rw [hT]; exact hc0) (by rw [hT]; exact hc1)
    (fun _ h => by cases h) (fun _ h => by cases h) (fun h => by cases h) (fun h => by cases h) hk0 hk1 hkk0 hkk1 rfl (by decide) (by decide) (by rw [Int32.lt_iff_toInt_lt, hnt]; exact (by omega : ¬ (n : Int) < 0))
    (by rw [h0t, hnt]; show ¬ _ > ((arrV G.2.2.1 n0 (fun j => .int (Int32.ofInt (w c0 t0 j)))).slots.size : Int); rw [arrV_size]; omega)
    (by rw [h0t, hnt]; show ¬ _ > ((arrV G.2.2.1 n1 (fun j => .int (Int32.ofInt (w c1 t1 j)))).slots.size : Int); rw [arrV_size]; omega)
    (fun vm₁ _ i hi => by
      rw [hnc] at hi
      have e : (vp_cell G.2.2.1 (n0, .inl (fun j => Int32.ofInt (w c0 t0 j)))).slots.getD ((Int32.ofInt 0).toNatClampNeg + i) .null = .int (Int32.ofInt (w c0 t0 i)) := by
        rw [h0c, Nat.zero_add]
        show (arrV G.2.2.1 n0 (fun j => .int (Int32.ofInt (w c0 t0 j)))).slots.getD _ _ = _
        rw [Array.getD_eq_getD_getElem?, arrV_read _ _ (by omega)]
        rfl
      refine ⟨?_, ?_⟩
      · rw [e]
        rfl
      · rw [e]
        exact trivial)
    (g := F0 m pc ls (iV n :: iV 0 :: .ref (G.1 c1 t1) :: iV 0 :: .ref (G.1 c0 t0) :: rest)) rfl (by rw [M.2.2.1]; exact hl.1) (rest := rest) rfl (by rw [M.2.1]; exact hdg) hframes (by show 2 * 0 + _ + _ ≤ _; omega)
  have e1 : copied (vp_cell G.2.2.1 (n0, .inl (fun j => Int32.ofInt (w c0 t0 j)))) (vp_cell G.2.2.1 (n1, .inl (fun j => Int32.ofInt (w c1 t1 j)))) (Int32.ofInt 0) (Int32.ofInt 0) (Int32.ofInt n) = vp_cell G.2.2.1 (n1, .inl (va_cpy (fun j => Int32.ofInt (w c0 t0 j)) (fun j => Int32.ofInt (w c1 t1 j)) 0 0 n)) := by
    have e0 : copied (vp_cell G.2.2.1 (n0, .inl (fun j => Int32.ofInt (w c0 t0 j)))) (vp_cell G.2.2.1 (n1, .inl (fun j => Int32.ofInt (w c1 t1 j)))) (Int32.ofInt 0) (Int32.ofInt 0) (Int32.ofInt n) = vp_cell G.2.2.1 (n1, .inl (va_cpy (fun j => Int32.ofInt (w c0 t0 j)) (fun j => Int32.ofInt (w c1 t1 j)) (Int32.ofInt 0).toNatClampNeg (Int32.ofInt 0).toNatClampNeg (Int32.ofInt (n : Int)).toNatClampNeg)) := va_copied (n0 := n0) (n1 := n1) (sp := (Int32.ofInt 0).toNatClampNeg) (dp := (Int32.ofInt 0).toNatClampNeg) (n := (Int32.ofInt (n : Int)).toNatClampNeg) (fun z => .int z) G.2.2.1 G.2.2.1 (fun j => Int32.ofInt (w c0 t0 j)) (fun j => Int32.ofInt (w c1 t1 j)) (by rw [h0c, hnc]; omega)
    rw [h0c, hnc] at e0
    exact e0
  rw [e1] at X' step
  have hlt : G.1 c1 t1 < H.size := (Array.getElem?_eq_some_iff.mp hc1).1
  have hheap : ((T.setVm vm').setCell (G.1 c1 t1) (vp_cell G.2.2.1 (n1, .inl (va_cpy (fun j => Int32.ofInt (w c0 t0 j)) (fun j => Int32.ofInt (w c1 t1 j)) 0 0 n)))).heap = H.setIfInBounds (G.1 c1 t1) (vp_cell G.2.2.1 (n1, .inl (va_cpy (fun j => Int32.ofInt (w c0 t0 j)) (fun j => Int32.ofInt (w c1 t1 j)) 0 0 n))) := by rw [← hT]; rfl
  have oq : ∀ q : Nat, q ≠ G.1 c1 t1 → (H.setIfInBounds (G.1 c1 t1) (vp_cell G.2.2.1 (n1, .inl (va_cpy (fun j => Int32.ofInt (w c0 t0 j)) (fun j => Int32.ofInt (w c1 t1 j)) 0 0 n))))[q]? = H[q]? := fun q hq => by simp [Array.getElem?_setIfInBounds, Ne.symm hq]
  have hat : va_at G.2.1 vwCl (G.1 c1 t1, sE G (cpy w c0 t0 c1 t1 n) c1 t1) (H.setIfInBounds (G.1 c1 t1) (vp_cell G.2.2.1 (n1, .inl (va_cpy (fun j => Int32.ofInt (w c0 t0 j)) (fun j => Int32.ofInt (w c1 t1 j)) 0 0 n)))) := by
    rw [hs1]
    show (H.setIfInBounds (G.1 c1 t1) (vp_cell G.2.2.1 _))[G.1 c1 t1]? = some (vp_cell G.2.2.1 _)
    rw [Array.getElem?_setIfInBounds, if_pos rfl, if_pos hlt]
    congr 4
    funext j
    unfold va_cpy cpy
    by_cases hj : j < n
    · simp [hj]
    · simp [hj]
  obtain ⟨t, a1, b1⟩ := kk _ _ (hS.many ok1 cpy_off (fun j => cpy_inr hS.1.2.2 h021 _ _ _) hat (by simp) oq (fun q hq => by
    obtain ⟨z, -, hz⟩ := List.mem_map.mp hq
    rw [← hz])) _ hheap X'
  exact ⟨t, step t a1, b1⟩
theorem o_inr_div {x y : Int} (hx : InR x) (g : 0 ≤ x ∧ 0 < y) : InR (x / y) := by
  have hq : 0 ≤ x / y := Int.ediv_nonneg g.1 (by omega)
  have hq2 : x / y ≤ x := Int.ediv_le_self y g.1
  exact ⟨by omega, by omega⟩
theorem o_inr_rem {x y : Int} (hy : InR y) (g : 0 ≤ x ∧ 0 < y) : InR (x % y) := by
  have hq : 0 ≤ x % y := Int.emod_nonneg x (by omega)
  have hq2 : x % y < y := Int.emod_lt_of_pos x g.2
  exact ⟨by omega, by omega⟩
theorem x_alen (M : MC p s m args meth c cc nL own Ts G) (hS : ST G s w H locs) {c0 t0 n : Nat} (ok : okc c0 t0) (hs : ∀ w' : Wd, sE G w' c0 t0 = arI G n (w' c0 t0)) {N : Int} (hN : N = (n : Int)) (hdg : decode cc pc = .ok (.arraylength, 1)) (kk : W p l e R s m args below meth c H locs cells slots Q (F0 m (pc + 1) ls (iV N :: rest))) : W p l e R s m args below meth c H locs cells slots Q (F0 m pc ls (.ref (G.1 c0 t0) :: rest)) := by
  subst hN
  have h1 := hS.at ok
  rw [hs] at h1
  have h2 : H[G.1 c0 t0]? = some (arrV G.2.2.1 n (fun j => .int (Int32.ofInt (w c0 t0 j)))) := h1
  exact W.alen (n := Int32.ofInt n) M.1 M.2.1 h2 (M.kI n _) (by rw [arrV_size]; rfl) rfl rfl hdg kk
def tsel (dflt lo hi : Int) (offs : Array Int) (x : Int) : Int := if x < lo ∨ hi < x then dflt else (offs[(x - lo).toNat]?).getD dflt
theorem x_table (M : MC p s m args meth c cc nL own Ts G) {x : Int} (hx : InR x) {dflt lo hi : Int} {offs : Array Int} {len tgt : Nat} (hdg : decode cc pc = .ok (.tableswitch dflt lo hi offs, len)) (hsz : (offs.size : Int) = hi - lo + 1) (ht : (pc : Int) + tsel dflt lo hi offs x = (tgt : Int)) (k : W p l e R s m args below meth c H locs cells slots Q (F0 m tgt ls rest)) : W p l e R s m args below meth c H locs cells slots Q (F0 m pc ls (iV x :: rest)) := by
  unfold tsel at ht
  by_cases h : x < lo ∨ hi < x
  · rw [if_pos h] at ht
    exact lv_tableOut M.1 M.2.1 hdg (by rw [o_toInt hx]; exact h) ht k
  · rw [if_neg h] at ht
    have hl : (x - lo).toNat < offs.size := by omega
    have ho : offs[(x - lo).toNat]? = some offs[(x - lo).toNat] := Array.getElem?_eq_getElem hl
    rw [ho] at ht
    exact lv_tableIn M.1 M.2.1 hdg (by rw [o_toInt hx]; omega) (by rw [o_toInt hx]; omega) (by rw [o_toInt hx]; exact ho) ht k
theorem x_lookup (M : MC p s m args meth c cc nL own Ts G) {x : Int} (hx : InR x) {dflt : Int} {ps : Array (Int × Int)} {len tgt : Nat} (hdg : decode cc pc = .ok (.lookupswitch dflt ps, len)) (hp : (ps.toList.zip (ps.toList.drop 1)).all (fun (a, next) => a.1 < next.1) = true) (ht : (pc : Int) + Op.lookupswitch.offset ps.toList dflt x = (tgt : Int)) (k : W p l e R s m args below meth c H locs cells slots Q (F0 m tgt ls rest)) : W p l e R s m args below meth c H locs cells slots Q (F0 m pc ls (iV x :: rest)) :=
  lv_lookup M.1 M.2.1 hdg hp (by rw [o_toInt hx]) ht k
theorem pre_blind {As : List Value} : FrameBlind (PcG G w As) := fun _ _ _ _ q => ⟨q.1, q.2.1, KK.calling q.2.2⟩
theorem x_contI {r : Int} {w1 : Wd} {a : Array Value} {st : List Value} (hr : va_Run p l e R s m args below meth c H locs cells slots 0 0 (F0 m pc ls st) rest (QiG G r w1 a) (GA G)) (hS : ST G s w H locs) (kk : ∀ (H1 : Heap) (locs1 : List Loc), InR r → ST G s w1 H1 locs1 → W p l e R s m args below meth c H1 locs1 cells slots Q (F0 m (pc + 3) ls (iV r :: rest))) : W p l e R s m args below meth c H locs cells slots Q (F0 m pc ls st) := by
  refine va_calli hr hS.2 (fun _ _ h => h) (fun _ h => h) (fun r' u t H1 locs1 ht hvm hw hB hz hk hS1 => ?_)
  obtain ⟨rfl, hi⟩ := hw
  exact kk H1 locs1 hi ⟨by rw [← ht]; exact hB, hS1⟩
theorem x_contV {w1 : Wd} {a : Array Value} {st : List Value} (hr : va_Run p l e R s m args below meth c H locs cells slots 0 0 (F0 m pc ls st) rest (QvG G w1 a) (GA G)) (hS : ST G s w H locs) (kk : ∀ (H1 : Heap) (locs1 : List Loc), ST G s w1 H1 locs1 → W p l e R s m args below meth c H1 locs1 cells slots Q (F0 m (pc + 3) ls rest)) : W p l e R s m args below meth c H locs cells slots Q (F0 m pc ls st) := by
  refine va_callv hr hS.2 (fun _ _ h => h) (fun _ h => h) (fun u t H1 locs1 ht hvm hw hB hz hk hS1 => ?_)
  exact kk H1 locs1 ⟨by rw [← ht]; exact hB, hS1⟩
theorem x_recv (M : MC p s m args meth c cc nL own Ts G) (hS : ST G s w H locs) {c0 t0 : Nat} (ok : okc c0 t0) {C : String} {T : u_T} {N ci : Nat} {fs : List Value} (he : sE G w c0 t0 = .inr (ci, fs)) (hc : vwCl[ci]? = some (C, T, N)) : ∃ cell : Cell, H[G.1 c0 t0]? = some cell ∧ cell.vm.isStatics = false ∧ s.vm.findClass C = some cell.cls := by
  have h1 := hS.at ok
  rw [he] at h1
  obtain ⟨q', g0, cell, g1, g2, g3, -⟩ := h1
  exact ⟨cell, g1, by rw [g3]; rfl, by rw [g2]; exact (M.2.2.2.2.2.2.1.1 ci _ hc).2.1⟩
theorem x_callVi {c0 t0 : Nat} {r : Int} {k : Room} {y : MethodName} {wsy : List Cond} {bytes : ByteArray} {maxL idx n : Nat} {ret : Option FieldType} {As st : List Value} {w1 : Wd} {C : String} {T : u_T} {N ci : Nat} {fs : List Value} (M : MC p s m args meth c cc nL own Ts G) (hl : lv_has ls nL lv) (hS : ST G s w H locs) (hM : Met l y wsy k (PcG G w (.ref (G.1 c0 t0) :: As)) (QiG G r w1) 0 0 (GA G)) (cw : CallW R s args own C idx y bytes maxL ret wsy k 0 0 n) (ok : okc c0 t0) (he : sE G w c0 t0 = .inr (ci, fs)) (hc : vwCl[ci]? = some (C, T, N)) (hn : As.length = n) (hcat : (rest.map fun v => v.category).sum ≤ 8) (hdg : decode cc pc = .ok (.invokevirtual idx, 3)) (hst : st = As.reverse ++ .ref (G.1 c0 t0) :: rest) (hR : cells ≤ R.cells ∧ slots ≤ R.slots) (kk : ∀ (H1 : Heap) (locs1 : List Loc), InR r → ST G s w1 H1 locs1 → W p l e R s m args below meth c H1 locs1 cells slots Q (F0 m (pc + 3) ls (iV r :: rest))) : W p l e R s m args below meth c H locs cells slots Q (F0 m pc ls st) :=
  x_contI (va_runV (As := As) (rest := rest) ⟨M.1, M.2.1, M.2.2.1, M.2.2.2.1, M.2.2.2.2.1⟩ hM cw ⟨pre_blind, x_recv M hS ok he hc, fun U hU hW => ⟨rfl, by rw [hU]; exact hS.1, KK.warm hW M.2.2.2.2.2.2⟩⟩ rfl hn hl.1 hst (lv_room hcat) hdg hR) hS kk
theorem x_callVv {c0 t0 : Nat} {k : Room} {y : MethodName} {wsy : List Cond} {bytes : ByteArray} {maxL idx n : Nat} {ret : Option FieldType} {As st : List Value} {w1 : Wd} {C : String} {T : u_T} {N ci : Nat} {fs : List Value} (M : MC p s m args meth c cc nL own Ts G) (hl : lv_has ls nL lv) (hS : ST G s w H locs) (hM : Met l y wsy k (PcG G w (.ref (G.1 c0 t0) :: As)) (QvG G w1) 0 0 (GA G)) (cw : CallW R s args own C idx y bytes maxL ret wsy k 0 0 n) (ok : okc c0 t0) (he : sE G w c0 t0 = .inr (ci, fs)) (hc : vwCl[ci]? = some (C, T, N)) (hn : As.length = n) (hcat : (rest.map fun v => v.category).sum ≤ 8) (hdg : decode cc pc = .ok (.invokevirtual idx, 3)) (hst : st = As.reverse ++ .ref (G.1 c0 t0) :: rest) (hR : cells ≤ R.cells ∧ slots ≤ R.slots) (kk : ∀ (H1 : Heap) (locs1 : List Loc), ST G s w1 H1 locs1 → W p l e R s m args below meth c H1 locs1 cells slots Q (F0 m (pc + 3) ls rest)) : W p l e R s m args below meth c H locs cells slots Q (F0 m pc ls st) :=
  x_contV (va_runV (As := As) (rest := rest) ⟨M.1, M.2.1, M.2.2.1, M.2.2.2.1, M.2.2.2.2.1⟩ hM cw ⟨pre_blind, x_recv M hS ok he hc, fun U hU hW => ⟨rfl, by rw [hU]; exact hS.1, KK.warm hW M.2.2.2.2.2.2⟩⟩ rfl hn hl.1 hst (lv_room hcat) hdg hR) hS kk
theorem x_callSi {r : Int} {k : Room} {y : MethodName} {wsy : List Cond} {bytes : ByteArray} {maxL idx n : Nat} {ret : Option FieldType} {As st : List Value} {w1 : Wd} (M : MC p s m args meth c cc nL own Ts G) (hl : lv_has ls nL lv) (hS : ST G s w H locs) (hM : Met l y wsy k (PcG G w As) (QiG G r w1) 0 0 (GA G)) (cw : CallB R s args own idx y bytes maxL ret wsy k 0 0 n ∧ (Cond.static y).before args s = true) (hn : As.length = n) (hcat : (rest.map fun v => v.category).sum ≤ 8) (hdg : decode cc pc = .ok (.invokestatic idx, 3)) (hst : st = As.reverse ++ rest) (hR : cells ≤ R.cells ∧ slots ≤ R.slots) (kk : ∀ (H1 : Heap) (locs1 : List Loc), InR r → ST G s w1 H1 locs1 → W p l e R s m args below meth c H1 locs1 cells slots Q (F0 m (pc + 3) ls (iV r :: rest))) : W p l e R s m args below meth c H locs cells slots Q (F0 m pc ls st) :=
  x_contI (va_runS (As := As) (rest := rest) ⟨M.1, M.2.1, M.2.2.1, M.2.2.2.1, M.2.2.2.2.1⟩ hM cw ⟨pre_blind, fun U hU hW => ⟨rfl, by rw [hU]; exact hS.1, KK.warm hW M.2.2.2.2.2.2⟩⟩ rfl hn hl.1 hst (lv_room hcat) hdg hR) hS kk
theorem x_callNi {r : Int} {k : Room} {y : MethodName} {wsy : List Cond} {bytes : ByteArray} {maxL idx n : Nat} {ret : Option FieldType} {As st : List Value} {w1 : Wd} {host : String} (M : MC p s m args meth c cc nL own Ts G) (hl : lv_has ls nL lv) (hS : ST G s w H locs) (hM : Met l y wsy k (PcG G w As) (QiG G r w1) 0 0 (GA G)) (cw : va_CN R s args own idx y host bytes maxL ret wsy k 0 0 n) (hstt : (Cond.static y).before args s = true) (hn : As.length = n) (hcat : (rest.map fun v => v.category).sum ≤ 8) (hdg : decode cc pc = .ok (.invokestatic idx, 3)) (hst : st = As.reverse ++ rest) (hR : cells ≤ R.cells ∧ slots ≤ R.slots) (kk : ∀ (H1 : Heap) (locs1 : List Loc), InR r → ST G s w1 H1 locs1 → W p l e R s m args below meth c H1 locs1 cells slots Q (F0 m (pc + 3) ls (iV r :: rest))) : W p l e R s m args below meth c H locs cells slots Q (F0 m pc ls st) :=
  x_contI (va_runSN (As := As) (rest := rest) ⟨M.1, M.2.1, M.2.2.1, M.2.2.2.1, M.2.2.2.2.1⟩ hM ⟨cw, hstt, trivial⟩ ⟨pre_blind, fun U hU hW => ⟨rfl, by rw [hU]; exact hS.1, KK.warm hW M.2.2.2.2.2.2⟩⟩ rfl hn hl.1 hst (lv_room hcat) hdg hR) hS kk
theorem x_iret {z r : Int} {w' : Wd} (M : MC p s m args meth c cc nL own Ts G) (hr : meth.sig.returnType = some .int) (hf : some (z, w) = some (r, w')) (hS : ST G s w H locs) (hz : InR z) (hdg : decode cc pc = .ok (.ireturn, 1)) : W p l e R s m args below meth c H locs cells slots (MQ below (QiG G r w') args s cells slots (GA G)) (F0 m pc ls [iV z]) := by
  cases hf
  exact W.iret M.1 M.2.1 hr (fun t ht hW => ⟨⟨_, (), rfl, ⟨rfl, hz⟩, by show HP G w t.heap; rw [ht]; exact hS.1⟩, hS.2.F ht⟩) hS.2.2.2 hdg M.2.2.2.2.2.1
theorem x_zret {z r : Int} {w' : Wd} (M : MC p s m args meth c cc nL own Ts G) (hr : meth.sig.returnType = some .boolean) (hf : some (z, w) = some (r, w')) (hS : ST G s w H locs) (hz : z = 0 ∨ z = 1) (hdg : decode cc pc = .ok (.ireturn, 1)) : W p l e R s m args below meth c H locs cells slots (MQ below (QiG G r w') args s cells slots (GA G)) (F0 m pc ls [iV z]) := by
  cases hf
  exact W.zret M.1 M.2.1 hr (o_bool hz _ rfl) (fun t ht hW => ⟨⟨_, (), rfl, ⟨rfl, by omega, by omega⟩, by show HP G w t.heap; rw [ht]; exact hS.1⟩, hS.2.F ht⟩) hS.2.2.2 hdg M.2.2.2.2.2.1
theorem x_vret {z r : Int} {w' : Wd} (M : MC p s m args meth c cc nL own Ts G) (hr : meth.sig.returnType = none) (hf : some (z, w) = some (r, w')) (hS : ST G s w H locs) (hdg : decode cc pc = .ok (.return_, 1)) : W p l e R s m args below meth c H locs cells slots (MQ below (QvG G w') args s cells slots (GA G)) (F0 m pc ls []) := by
  cases hf
  exact W.vret M.1 M.2.1 hr (fun t ht hW => ⟨⟨(), rfl, trivial, by show HP G w t.heap; rw [ht]; exact hS.1⟩, hS.2.F ht⟩) hS.2.2.2 hdg M.2.2.2.2.2.1
end RX
theorem met_of {l : Launch} {y : MethodName} {ws ws' : List Cond} {k : Room} {cc : ByteArray} {maxL : Nat} {ret : Option FieldType} {G : GG} {w : Wd} {As : List Value} {Qc : Array Value → State → Outcome → State → Prop} (own : String) (hy : plainName y.cls = true) (hw : ws = Cond.code y cc maxL ret :: ws') (hlen : (lg_sl As).length ≤ maxL) (ho : y.cls = own)
    (body : ∀ (p : Program) (e : Env) (s : State) (m : MethodId) (args : Array Value) (below : List Frame) (meth : Method) (c : Code), MC p s m args meth c cc maxL own ws G → meth.sig.returnType = ret → ∀ ls : Array Slot, lv_has ls maxL (lv_args 0 As) → ST G s w s.heap [] → W p l e k s m args below meth c s.heap [] 0 0 (MQ below Qc args s 0 0 (GA G)) (F0 m 0 ls [])) : Met l y ws k (PcG G w As) Qc 0 0 (GA G) := by
  refine Met.ofW (cc := cc) (maxL := maxL) (ret := ret) hy hw ?_
  intro p e s m args below meth c s₁ B hml hv
  obtain ⟨rfl, hP, hK⟩ := hv
  have hts := atoms_spec (ws := ws) B.pre
  have hown : s.vm.findClass own = some m.cls := by rw [← ho]; exact findClass_of_methodNamed B.named
  have hl := lv_entry As (n := maxL) hlen
  rw [lg_entry_eq]
  exact body p e s m _ below meth c ⟨B.exec, B.bytes, hml, hown, hts, B.notSynchronized, hK⟩ B.returns _ hl ⟨hP, va_S.rf⟩
theorem sE_0 (G : GG) (w : Wd) (t : Nat) : sE G w 0 t = .inr (5, [.ref (G.1 1 t), .ref (G.1 2 t), .ref (G.1 8 t), iV (w 0 t 0), iV (w 0 t 1), iV (w 0 t 2), iV (w 0 t 3), iV (w 0 t 4), iV (w 0 t 5), iV (w 0 t 6)]) := rfl
theorem pset_0_0 (G : GG) (w : Wd) (t : Nat) (z : Int) : sE G (up w 0 t 0 z) 0 t = .inr (5, [.ref (G.1 1 t), .ref (G.1 2 t), .ref (G.1 8 t), iV (w 0 t 0), iV (w 0 t 1), iV (w 0 t 2), iV (w 0 t 3), iV (w 0 t 4), iV (w 0 t 5), iV (w 0 t 6)].set 3 (iV z)) := by rw [sE_0]; simp [up]
theorem pset_0_1 (G : GG) (w : Wd) (t : Nat) (z : Int) : sE G (up w 0 t 1 z) 0 t = .inr (5, [.ref (G.1 1 t), .ref (G.1 2 t), .ref (G.1 8 t), iV (w 0 t 0), iV (w 0 t 1), iV (w 0 t 2), iV (w 0 t 3), iV (w 0 t 4), iV (w 0 t 5), iV (w 0 t 6)].set 4 (iV z)) := by rw [sE_0]; simp [up]
theorem pset_0_2 (G : GG) (w : Wd) (t : Nat) (z : Int) : sE G (up w 0 t 2 z) 0 t = .inr (5, [.ref (G.1 1 t), .ref (G.1 2 t), .ref (G.1 8 t), iV (w 0 t 0), iV (w 0 t 1), iV (w 0 t 2), iV (w 0 t 3), iV (w 0 t 4), iV (w 0 t 5), iV (w 0 t 6)].set 5 (iV z)) := by rw [sE_0]; simp [up]
theorem pset_0_3 (G : GG) (w : Wd) (t : Nat) (z : Int) : sE G (up w 0 t 3 z) 0 t = .inr (5, [.ref (G.1 1 t), .ref (G.1 2 t), .ref (G.1 8 t), iV (w 0 t 0), iV (w 0 t 1), iV (w 0 t 2), iV (w 0 t 3), iV (w 0 t 4), iV (w 0 t 5), iV (w 0 t 6)].set 6 (iV z)) := by rw [sE_0]; simp [up]
theorem pset_0_4 (G : GG) (w : Wd) (t : Nat) (z : Int) : sE G (up w 0 t 4 z) 0 t = .inr (5, [.ref (G.1 1 t), .ref (G.1 2 t), .ref (G.1 8 t), iV (w 0 t 0), iV (w 0 t 1), iV (w 0 t 2), iV (w 0 t 3), iV (w 0 t 4), iV (w 0 t 5), iV (w 0 t 6)].set 7 (iV z)) := by rw [sE_0]; simp [up]
theorem pset_0_5 (G : GG) (w : Wd) (t : Nat) (z : Int) : sE G (up w 0 t 5 z) 0 t = .inr (5, [.ref (G.1 1 t), .ref (G.1 2 t), .ref (G.1 8 t), iV (w 0 t 0), iV (w 0 t 1), iV (w 0 t 2), iV (w 0 t 3), iV (w 0 t 4), iV (w 0 t 5), iV (w 0 t 6)].set 8 (iV z)) := by rw [sE_0]; simp [up]
theorem pset_0_6 (G : GG) (w : Wd) (t : Nat) (z : Int) : sE G (up w 0 t 6 z) 0 t = .inr (5, [.ref (G.1 1 t), .ref (G.1 2 t), .ref (G.1 8 t), iV (w 0 t 0), iV (w 0 t 1), iV (w 0 t 2), iV (w 0 t 3), iV (w 0 t 4), iV (w 0 t 5), iV (w 0 t 6)].set 9 (iV z)) := by rw [sE_0]; simp [up]
theorem sE_1 (G : GG) (w : Wd) (t : Nat) : sE G w 1 t = arI G 8 (w 1 t) := rfl
theorem hs_1 (G : GG) (t : Nat) : ∀ w' : Wd, sE G w' 1 t = arI G 8 (w' 1 t) := fun _ => rfl
theorem sE_2 (G : GG) (w : Wd) (t : Nat) : sE G w 2 t = .inr (0, [.ref (G.1 3 t), .ref (G.1 4 t), .ref (G.1 5 t), .ref (G.1 6 t), .ref (G.1 7 t)]) := rfl
theorem sE_3 (G : GG) (w : Wd) (t : Nat) : sE G w 3 t = arI G 260 (w 3 t) := rfl
theorem hs_3 (G : GG) (t : Nat) : ∀ w' : Wd, sE G w' 3 t = arI G 260 (w' 3 t) := fun _ => rfl
theorem sE_4 (G : GG) (w : Wd) (t : Nat) : sE G w 4 t = arI G 260 (w 4 t) := rfl
theorem hs_4 (G : GG) (t : Nat) : ∀ w' : Wd, sE G w' 4 t = arI G 260 (w' 4 t) := fun _ => rfl
theorem sE_5 (G : GG) (w : Wd) (t : Nat) : sE G w 5 t = arI G 260 (w 5 t) := rfl
theorem hs_5 (G : GG) (t : Nat) : ∀ w' : Wd, sE G w' 5 t = arI G 260 (w' 5 t) := fun _ => rfl
theorem sE_6 (G : GG) (w : Wd) (t : Nat) : sE G w 6 t = arI G 260 (w 6 t) := rfl
theorem hs_6 (G : GG) (t : Nat) : ∀ w' : Wd, sE G w' 6 t = arI G 260 (w' 6 t) := fun _ => rfl
theorem sE_7 (G : GG) (w : Wd) (t : Nat) : sE G w 7 t = arI G 520 (w 7 t) := rfl
theorem hs_7 (G : GG) (t : Nat) : ∀ w' : Wd, sE G w' 7 t = arI G 520 (w' 7 t) := fun _ => rfl
theorem sE_8 (G : GG) (w : Wd) (t : Nat) : sE G w 8 t = .inr (3, [.ref (G.1 9 t), iV (w 8 t 0), iV (w 8 t 1)]) := rfl
theorem pset_8_0 (G : GG) (w : Wd) (t : Nat) (z : Int) : sE G (up w 8 t 0 z) 8 t = .inr (3, [.ref (G.1 9 t), iV (w 8 t 0), iV (w 8 t 1)].set 1 (iV z)) := by rw [sE_8]; simp [up]
theorem pset_8_1 (G : GG) (w : Wd) (t : Nat) (z : Int) : sE G (up w 8 t 1 z) 8 t = .inr (3, [.ref (G.1 9 t), iV (w 8 t 0), iV (w 8 t 1)].set 2 (iV z)) := by rw [sE_8]; simp [up]
theorem sE_9 (G : GG) (w : Wd) (t : Nat) : sE G w 9 t = arI G 124 (w 9 t) := rfl
theorem hs_9 (G : GG) (t : Nat) : ∀ w' : Wd, sE G w' 9 t = arI G 124 (w' 9 t) := fun _ => rfl
theorem sE_10 (G : GG) (w : Wd) (t : Nat) : sE G w 10 t = .inr (7, [.ref (G.1 0 0), .ref (G.1 0 1), .ref (G.1 11 0), .ref (G.1 13 0), .ref (G.1 17 0), .ref (G.1 19 0)]) := rfl
theorem sE_11 (G : GG) (w : Wd) (t : Nat) : sE G w 11 t = .inr (2, [.ref (G.1 12 0), iV (w 11 t 0), iV (w 11 t 1)]) := rfl
theorem pset_11_0 (G : GG) (w : Wd) (t : Nat) (z : Int) : sE G (up w 11 t 0 z) 11 t = .inr (2, [.ref (G.1 12 0), iV (w 11 t 0), iV (w 11 t 1)].set 1 (iV z)) := by rw [sE_11]; simp [up]
theorem pset_11_1 (G : GG) (w : Wd) (t : Nat) (z : Int) : sE G (up w 11 t 1 z) 11 t = .inr (2, [.ref (G.1 12 0), iV (w 11 t 0), iV (w 11 t 1)].set 2 (iV z)) := by rw [sE_11]; simp [up]
theorem sE_12 (G : GG) (w : Wd) (t : Nat) : sE G w 12 t = .inl (G.2.2.2.2.1, 6, .inr (.inr (.inr (.inr (fun i => some (G.1 0 (i + 2))))))) := rfl
theorem sE_13 (G : GG) (w : Wd) (t : Nat) : sE G w 13 t = .inr (4, [.ref (G.1 14 0), .ref (G.1 15 0), .ref (G.1 16 0), iV (w 13 t 0)]) := rfl
theorem pset_13_0 (G : GG) (w : Wd) (t : Nat) (z : Int) : sE G (up w 13 t 0 z) 13 t = .inr (4, [.ref (G.1 14 0), .ref (G.1 15 0), .ref (G.1 16 0), iV (w 13 t 0)].set 3 (iV z)) := by rw [sE_13]; simp [up]
theorem sE_14 (G : GG) (w : Wd) (t : Nat) : sE G w 14 t = arZ G 260 (w 14 t) := rfl
theorem hs_14 (G : GG) (t : Nat) : ∀ w' : Wd, sE G w' 14 t = arZ G 260 (w' 14 t) := fun _ => rfl
theorem sE_15 (G : GG) (w : Wd) (t : Nat) : sE G w 15 t = arI G 260 (w 15 t) := rfl
theorem hs_15 (G : GG) (t : Nat) : ∀ w' : Wd, sE G w' 15 t = arI G 260 (w' 15 t) := fun _ => rfl
theorem sE_16 (G : GG) (w : Wd) (t : Nat) : sE G w 16 t = arZ G 40 (w 16 t) := rfl
theorem hs_16 (G : GG) (t : Nat) : ∀ w' : Wd, sE G w' 16 t = arZ G 40 (w' 16 t) := fun _ => rfl
theorem sE_17 (G : GG) (w : Wd) (t : Nat) : sE G w 17 t = .inr (6, [.ref (G.1 18 0), iV (w 17 t 0)]) := rfl
theorem pset_17_0 (G : GG) (w : Wd) (t : Nat) (z : Int) : sE G (up w 17 t 0 z) 17 t = .inr (6, [.ref (G.1 18 0), iV (w 17 t 0)].set 1 (iV z)) := by rw [sE_17]; simp [up]
theorem sE_18 (G : GG) (w : Wd) (t : Nat) : sE G w 18 t = arI G 80 (w 18 t) := rfl
theorem hs_18 (G : GG) (t : Nat) : ∀ w' : Wd, sE G w' 18 t = arI G 80 (w' 18 t) := fun _ => rfl
theorem sE_19 (G : GG) (w : Wd) (t : Nat) : sE G w 19 t = .inr (1, [.ref (G.1 20 0), iV (w 19 t 0), iV (w 19 t 1)]) := rfl
theorem pset_19_0 (G : GG) (w : Wd) (t : Nat) (z : Int) : sE G (up w 19 t 0 z) 19 t = .inr (1, [.ref (G.1 20 0), iV (w 19 t 0), iV (w 19 t 1)].set 1 (iV z)) := by rw [sE_19]; simp [up]
theorem pset_19_1 (G : GG) (w : Wd) (t : Nat) (z : Int) : sE G (up w 19 t 1 z) 19 t = .inr (1, [.ref (G.1 20 0), iV (w 19 t 0), iV (w 19 t 1)].set 2 (iV z)) := by rw [sE_19]; simp [up]
theorem sE_20 (G : GG) (w : Wd) (t : Nat) : sE G w 20 t = arI G 3 (w 20 t) := rfl
theorem hs_20 (G : GG) (t : Nat) : ∀ w' : Wd, sE G w' 20 t = arI G 3 (w' 20 t) := fun _ => rfl
theorem sE_30 (G : GG) (w : Wd) (t : Nat) : sE G w 30 t = arI G 9 (w 30 t) := rfl
theorem hs_30 (G : GG) (t : Nat) : ∀ w' : Wd, sE G w' 30 t = arI G 9 (w' 30 t) := fun _ => rfl
theorem sE_31 (G : GG) (w : Wd) (t : Nat) : sE G w 31 t = arI G 8 (w 31 t) := rfl
theorem hs_31 (G : GG) (t : Nat) : ∀ w' : Wd, sE G w' 31 t = arI G 8 (w' 31 t) := fun _ => rfl
theorem sE_32 (G : GG) (w : Wd) (t : Nat) : sE G w 32 t = arI G 40 (w 32 t) := rfl
theorem hs_32 (G : GG) (t : Nat) : ∀ w' : Wd, sE G w' 32 t = arI G 40 (w' 32 t) := fun _ => rfl
theorem sE_33 (G : GG) (w : Wd) (t : Nat) : sE G w 33 t = arI G 64 (w 33 t) := rfl
theorem hs_33 (G : GG) (t : Nat) : ∀ w' : Wd, sE G w' 33 t = arI G 64 (w' 33 t) := fun _ => rfl
theorem sE_34 (G : GG) (w : Wd) (t : Nat) : sE G w 34 t = arL G 64 (w 34 t) := rfl
theorem hs_34 (G : GG) (t : Nat) : ∀ w' : Wd, sE G w' 34 t = arL G 64 (w' 34 t) := fun _ => rfl
theorem sE_35 (G : GG) (w : Wd) (t : Nat) : sE G w 35 t = arL G 64 (w 35 t) := rfl
theorem hs_35 (G : GG) (t : Nat) : ∀ w' : Wd, sE G w' 35 t = arL G 64 (w' 35 t) := fun _ => rfl
theorem sE_36 (G : GG) (w : Wd) (t : Nat) : sE G w 36 t = arL G 64 (w 36 t) := rfl
theorem hs_36 (G : GG) (t : Nat) : ∀ w' : Wd, sE G w' 36 t = arL G 64 (w' 36 t) := fun _ => rfl
theorem o_fitb {z : Int} (h : z = 0 ∨ z = 1) (ty : FieldType) (ht : ty = .boolean) : fits ty (iV z) = true := by
  subst ht
  rcases h with rfl | rfl <;> decide
theorem met_ofF {l : Launch} {y : MethodName} {ws ws' : List Cond} {k : Room} {cc : ByteArray} {maxL : Nat} {ret : Option FieldType} {G : GG} {w : Wd} {As : List Value} {Qc : Array Value → State → Outcome → State → Prop} (own : String) (hy : plainFor y = true) (hw : ws = Cond.code y cc maxL ret :: ws') (hlen : (lg_sl As).length ≤ maxL) (ho : y.cls = own)
    (body : ∀ (p : Program) (e : Env) (s : State) (m : MethodId) (args : Array Value) (below : List Frame) (meth : Method) (c : Code), MC p s m args meth c cc maxL own ws G → meth.sig.returnType = ret → ∀ ls : Array Slot, lv_has ls maxL (lv_args 0 As) → ST G s w s.heap [] → W p l e k s m args below meth c s.heap [] 0 0 (MQ below Qc args s 0 0 (GA G)) (F0 m 0 ls [])) : Met l y ws k (PcG G w As) Qc 0 0 (GA G) := by
  refine va_MetF (cc := cc) (maxL := maxL) (ret := ret) hy hw ?_
  intro p e s m args below meth c s₁ B hml hv
  obtain ⟨rfl, hP, hK⟩ := hv
  have hts := atoms_spec (ws := ws) B.pre
  have hown : s.vm.findClass own = some m.cls := by rw [← ho]; exact findClass_of_methodNamed B.named
  have hl := lv_entry As (n := maxL) hlen
  rw [lg_entry_eq]
  exact body p e s m _ below meth c ⟨B.exec, B.bytes, hml, hown, hts, B.notSynchronized, hK⟩ B.returns _ hl ⟨hP, va_S.rf⟩
