/-! rows for whole numbers of 64 bits, and calls with more on the stack -/
abbrev lV (z : Int) : Value := .long (Int64.ofInt z)
abbrev rmL (k n : Nat) : Room := { frames := k, cells := 0, slots := 0, locals := n }
def orL (x y : Int) : Int := (Int64.ofInt x ||| Int64.ofInt y).toInt
def andL (x y : Int) : Int := (Int64.ofInt x &&& Int64.ofInt y).toInt
def shlL (x y : Int) : Int := (Int64.ofInt x <<< ((Int32.ofInt y).toInt64 &&& 63)).toInt
def shrL (x y : Int) : Int := (Int64.ofInt x >>> ((Int32.ofInt y).toInt64 &&& 63)).toInt
def cmpL (x y : Int) : Int := (lg_cmp (Int64.ofInt x) (Int64.ofInt y)).toInt
def l2iI (x : Int) : Int := (Int64.ofInt x).toInt32.toInt
def andI (x y : Int) : Int := (Int32.ofInt x &&& Int32.ofInt y).toInt
def shrI (x y : Int) : Int := (Int32.ofInt x >>> (Int32.ofInt y &&& 31)).toInt
theorem ol_toInt {z : Int} (h : InL z) : (Int64.ofInt z).toInt = z := Int64.toInt_ofInt_of_le (by omega) (by omega)
theorem ol_inl (x : Int64) : InL x.toInt := by
  have h1 := Int64.le_toInt x
  have h2 := Int64.toInt_lt x
  exact ⟨by omega, by omega⟩
theorem ol_of (x : Int64) : Int64.ofInt x.toInt = x := Int64.ofInt_toInt x
theorem i2l_inl {x : Int} (h : InR x) : InL x := ⟨by omega, by omega⟩
theorem i2l_e {x : Int} (h : InR x) : (Int32.ofInt x).toInt64 = Int64.ofInt x := by
  rw [← Int64.toInt_inj, ol_toInt (i2l_inl h), Int32.toInt_toInt64, o_toInt h]
abbrev QlG (G : GG) (r : Int) (w : Wd) : Array Value → State → Outcome → State → Prop := va_Ql (fun (x : Int64) (_ : Unit) => x = Int64.ofInt r ∧ InL r) (fun _ t => HP G w t.heap) (GA G)
section RL
variable {p : Program} {l : Launch} {e : Env} {R : Room} {s : State} {m : MethodId} {args : Array Value} {below : List Frame} {meth : Method} {c : Code} {H : Heap} {locs : List Loc} {cells slots : Nat} {Q : State → Prop}
variable {cc : ByteArray} {nL : Nat} {own : String} {Ts : List Cond} {G : GG} {pc : Nat} {ls : Array Slot} {rest : List Value} {lv lv' : List (Nat × Value)} {w : Wd}
theorem x_aload (M : MC p s m args meth c cc nL own Ts G) (hl : lv_has ls nL lv) {i : Nat} (hdg : decode cc pc = .ok (.aload i, 2)) (j : Nat) {a : Nat} (hj : lv[j]? = some (i, .ref a)) (kk : W p l e R s m args below meth c H locs cells slots Q (F0 m (pc + 2) ls (.ref a :: rest))) : W p l e R s m args below meth c H locs cells slots Q (F0 m pc ls rest) := lv_aload M.1 M.2.1 hdg (lv_at hl j hj) kk
theorem x_lload_n (M : MC p s m args meth c cc nL own Ts G) (hl : lv_has ls nL lv) {k : Fin 4} (hdg : decode cc pc = .ok (.lload_n k, 1)) (j : Nat) {z : Int} (hj : lv[j]? = some ((k : Nat), lV z)) (kk : W p l e R s m args below meth c H locs cells slots Q (F0 m (pc + 1) ls (lV z :: rest))) : W p l e R s m args below meth c H locs cells slots Q (F0 m pc ls rest) := lv_lload_n M.1 M.2.1 hdg rfl (lv_at hl j hj) kk
theorem x_lload (M : MC p s m args meth c cc nL own Ts G) (hl : lv_has ls nL lv) {i : Nat} (hdg : decode cc pc = .ok (.lload i, 2)) (j : Nat) {z : Int} (hj : lv[j]? = some (i, lV z)) (kk : W p l e R s m args below meth c H locs cells slots Q (F0 m (pc + 2) ls (lV z :: rest))) : W p l e R s m args below meth c H locs cells slots Q (F0 m pc ls rest) := lv_lload M.1 M.2.1 hdg (lv_at hl j hj) kk
theorem x_lstore_n (M : MC p s m args meth c cc nL own Ts G) (hl : lv_has ls nL lv) {k : Fin 4} (hdg : decode cc pc = .ok (.lstore_n k, 1)) {z : Int} (hn : (k : Nat) + 1 < nL) (lv' : List (Nat × Value)) (he : ((k : Nat), lV z) :: lv.filter (fun q => !(q.1 == (k : Nat)) && (!(q.1 == (k : Nat) + 1) && !(q.1 + 1 == (k : Nat) && q.2.category == 2))) = lv') (kk : ∀ ls' : Array Slot, lv_has ls' nL lv' → W p l e R s m args below meth c H locs cells slots Q (F0 m (pc + 1) ls' rest)) : W p l e R s m args below meth c H locs cells slots Q (F0 m pc ls (lV z :: rest)) := lv_lstore_n M.1 M.2.1 hdg rfl hl hn he kk
theorem x_lstore (M : MC p s m args meth c cc nL own Ts G) (hl : lv_has ls nL lv) {i : Nat} (hdg : decode cc pc = .ok (.lstore i, 2)) {z : Int} (hn : i + 1 < nL) (lv' : List (Nat × Value)) (he : (i, lV z) :: lv.filter (fun q => !(q.1 == i) && (!(q.1 == i + 1) && !(q.1 + 1 == i && q.2.category == 2))) = lv') (kk : ∀ ls' : Array Slot, lv_has ls' nL lv' → W p l e R s m args below meth c H locs cells slots Q (F0 m (pc + 2) ls' rest)) : W p l e R s m args below meth c H locs cells slots Q (F0 m pc ls (lV z :: rest)) := lv_lstore M.1 M.2.1 hdg hl hn he kk
theorem x_lconst (M : MC p s m args meth c cc nL own Ts G) {n : Fin 2} {z : Int} (hdg : decode cc pc = .ok (.lconst n, 1)) (hz : Int64.ofNat (n : Nat) = Int64.ofInt z) (k : W p l e R s m args below meth c H locs cells slots Q (F0 m (pc + 1) ls (lV z :: rest))) : W p l e R s m args below meth c H locs cells slots Q (F0 m pc ls rest) := lv_lconst M.1 M.2.1 hdg hz k
theorem x_ldc2 (M : MC p s m args meth c cc nL own Ts G) {index : Nat} {v : Int64} {z : Int} (hc : Cond.constantLong own index v ∈ Ts) (hz : v = Int64.ofInt z) (hdg : decode cc pc = .ok (.ldc2_w index, 3)) (k : W p l e R s m args below meth c H locs cells slots Q (F0 m (pc + 3) ls (lV z :: rest))) : W p l e R s m args below meth c H locs cells slots Q (F0 m pc ls rest) := by
  subst hz
  exact lv_ldc2 M.1 M.2.1 M.2.2.2.1 (M.2.2.2.2.1 _ hc) hdg k
theorem x_ldc (M : MC p s m args meth c cc nL own Ts G) {index : Nat} {v : Int32} {z : Int} (hc : Cond.constant own index v ∈ Ts) (hz : v = Int32.ofInt z) (hdg : decode cc pc = .ok (.ldc index, 2)) (k : W p l e R s m args below meth c H locs cells slots Q (F0 m (pc + 2) ls (iV z :: rest))) : W p l e R s m args below meth c H locs cells slots Q (F0 m pc ls rest) := by
  subst hz
  exact lv_ldc M.1 M.2.1 M.2.2.2.1 (M.2.2.2.2.1 _ hc) hdg k
theorem x_ladd (M : MC p s m args meth c cc nL own Ts G) {x y : Int} (hdg : decode cc pc = .ok (.ladd, 1)) (k : W p l e R s m args below meth c H locs cells slots Q (F0 m (pc + 1) ls (lV (x + y) :: rest))) : W p l e R s m args below meth c H locs cells slots Q (F0 m pc ls (lV y :: lV x :: rest)) := lv_ladd M.1 M.2.1 hdg (by rw [← Int64.ofInt_add]; exact k)
theorem x_lsub (M : MC p s m args meth c cc nL own Ts G) {x y : Int} (hdg : decode cc pc = .ok (.lsub, 1)) (k : W p l e R s m args below meth c H locs cells slots Q (F0 m (pc + 1) ls (lV (x - y) :: rest))) : W p l e R s m args below meth c H locs cells slots Q (F0 m pc ls (lV y :: lV x :: rest)) := lv_lsub M.1 M.2.1 hdg (by rw [← Int64.ofInt_sub]; exact k)
theorem x_lor (M : MC p s m args meth c cc nL own Ts G) {x y : Int} (hdg : decode cc pc = .ok (.lor, 1)) (k : W p l e R s m args below meth c H locs cells slots Q (F0 m (pc + 1) ls (lV (orL x y) :: rest))) : W p l e R s m args below meth c H locs cells slots Q (F0 m pc ls (lV y :: lV x :: rest)) := lv_lor M.1 M.2.1 hdg (by
  have e : lV (orL x y) = .long (Int64.ofInt x ||| Int64.ofInt y) := by show Value.long (Int64.ofInt (Int64.ofInt x ||| Int64.ofInt y).toInt) = _; rw [ol_of]
  rw [← e]
  exact k)
theorem x_land (M : MC p s m args meth c cc nL own Ts G) {x y : Int} (hdg : decode cc pc = .ok (.land, 1)) (k : W p l e R s m args below meth c H locs cells slots Q (F0 m (pc + 1) ls (lV (andL x y) :: rest))) : W p l e R s m args below meth c H locs cells slots Q (F0 m pc ls (lV y :: lV x :: rest)) := lv_land M.1 M.2.1 hdg (by
  have e : lV (andL x y) = .long (Int64.ofInt x &&& Int64.ofInt y) := by show Value.long (Int64.ofInt (Int64.ofInt x &&& Int64.ofInt y).toInt) = _; rw [ol_of]
  rw [← e]
  exact k)
theorem x_lshl (M : MC p s m args meth c cc nL own Ts G) {x y : Int} (hdg : decode cc pc = .ok (.lshl, 1)) (k : W p l e R s m args below meth c H locs cells slots Q (F0 m (pc + 1) ls (lV (shlL x y) :: rest))) : W p l e R s m args below meth c H locs cells slots Q (F0 m pc ls (iV y :: lV x :: rest)) := lv_lshl M.1 M.2.1 hdg (by unfold shlL; rw [ol_of]) k
theorem x_lshr (M : MC p s m args meth c cc nL own Ts G) {x y : Int} (hdg : decode cc pc = .ok (.lshr, 1)) (k : W p l e R s m args below meth c H locs cells slots Q (F0 m (pc + 1) ls (lV (shrL x y) :: rest))) : W p l e R s m args below meth c H locs cells slots Q (F0 m pc ls (iV y :: lV x :: rest)) := lv_lshr M.1 M.2.1 hdg (by unfold shrL; rw [ol_of]) k
theorem x_i2l (M : MC p s m args meth c cc nL own Ts G) {x : Int} (hx : InR x) (hdg : decode cc pc = .ok (.i2l, 1)) (k : W p l e R s m args below meth c H locs cells slots Q (F0 m (pc + 1) ls (lV x :: rest))) : W p l e R s m args below meth c H locs cells slots Q (F0 m pc ls (iV x :: rest)) := lv_i2l M.1 M.2.1 hdg (i2l_e hx) k
theorem x_l2i (M : MC p s m args meth c cc nL own Ts G) {x : Int} (hdg : decode cc pc = .ok (.l2i, 1)) (k : W p l e R s m args below meth c H locs cells slots Q (F0 m (pc + 1) ls (iV (l2iI x) :: rest))) : W p l e R s m args below meth c H locs cells slots Q (F0 m pc ls (lV x :: rest)) := lv_l2i M.1 M.2.1 hdg (by unfold l2iI; rw [o_of]) k
theorem x_lcmp (M : MC p s m args meth c cc nL own Ts G) {x y : Int} (hdg : decode cc pc = .ok (.lcmp, 1)) (k : W p l e R s m args below meth c H locs cells slots Q (F0 m (pc + 1) ls (iV (cmpL x y) :: rest))) : W p l e R s m args below meth c H locs cells slots Q (F0 m pc ls (lV y :: lV x :: rest)) := W.lcmp M.1 M.2.1 hdg (by
  have e : iV (cmpL x y) = .int (lg_cmp (Int64.ofInt x) (Int64.ofInt y)) := by show Value.int (Int32.ofInt (lg_cmp (Int64.ofInt x) (Int64.ofInt y)).toInt) = _; rw [o_of]
  rw [← e]
  exact k)
theorem x_iand (M : MC p s m args meth c cc nL own Ts G) {x y : Int} (hdg : decode cc pc = .ok (.iand, 1)) (k : W p l e R s m args below meth c H locs cells slots Q (F0 m (pc + 1) ls (iV (andI x y) :: rest))) : W p l e R s m args below meth c H locs cells slots Q (F0 m pc ls (iV y :: iV x :: rest)) := lv_iand M.1 M.2.1 hdg (by
  have e : iV (andI x y) = .int (Int32.ofInt x &&& Int32.ofInt y) := by show Value.int (Int32.ofInt (Int32.ofInt x &&& Int32.ofInt y).toInt) = _; rw [o_of]
  rw [← e]
  exact k)
theorem x_ishr (M : MC p s m args meth c cc nL own Ts G) {x y : Int} (hdg : decode cc pc = .ok (.ishr, 1)) (k : W p l e R s m args below meth c H locs cells slots Q (F0 m (pc + 1) ls (iV (shrI x y) :: rest))) : W p l e R s m args below meth c H locs cells slots Q (F0 m pc ls (iV y :: iV x :: rest)) := lv_ishr M.1 M.2.1 hdg (by
  have e : iV (shrI x y) = .int (Int32.ofInt x >>> (Int32.ofInt y &&& 31)) := by show Value.int (Int32.ofInt (Int32.ofInt x >>> (Int32.ofInt y &&& 31)).toInt) = _; rw [o_of]
  rw [← e]
  exact k)
theorem x_lald (M : MC p s m args meth c cc nL own Ts G) (hS : ST G s w H locs) {c0 t0 n : Nat} (ok : okc c0 t0) (hs : ∀ w' : Wd, sE G w' c0 t0 = arL G n (w' c0 t0)) {i : Int} {N : Int} (hN : N = (n : Int)) (hi : 0 ≤ i ∧ i < N) (hn : n < 2147483648) (hdg : decode cc pc = .ok (.laload, 1)) (kk : W p l e R s m args below meth c H locs cells slots Q (F0 m (pc + 1) ls (lV (w c0 t0 i.toNat) :: rest))) : W p l e R s m args below meth c H locs cells slots Q (F0 m pc ls (iV i :: .ref (G.1 c0 t0) :: rest)) := by
  subst hN
  have h1 := hS.at ok
  rw [hs] at h1
  have h2 : H[G.1 c0 t0]? = some (arrV G.2.2.2.2.2 n (fun j => .long (Int64.ofInt (w c0 t0 j)))) := h1
  have hin := o_in hi hn
  have hc : (Int32.ofInt i).toNatClampNeg = i.toNat := o_clamp ⟨by omega, by omega⟩
  exact W.lald (v := lV (w c0 t0 i.toNat)) M.1 M.2.1 h2 (M.kL n _) (fun q => by cases q) (by rw [arrV_size]; exact hin) (by rw [hc, arrV_read _ _ (by omega)]) rfl rfl hdg kk
theorem up_inl {w : Wd} {c0 t0 i : Nat} {z : Int} (h34 : 34 ≤ c0) (hz : InL z) (h : ∀ c t i, InC c (w c t i)) (j : Nat) : InC c0 (up w c0 t0 i z c0 t0 j) := by
  unfold up
  split
  · exact inC_l h34 hz
  · exact h _ _ _
theorem x_last (M : MC p s m args meth c cc nL own Ts G) (hS : ST G s w H locs) {c0 t0 n : Nat} (ok : okc c0 t0) (hs : ∀ w' : Wd, sE G w' c0 t0 = arL G n (w' c0 t0)) {i z : Int} {N : Int} (hN : N = (n : Int)) (hi : 0 ≤ i ∧ i < N) (hn : n < 2147483648) (h34 : 34 ≤ c0) (hz : InL z) (hdg : decode cc pc = .ok (.lastore, 1)) (kk : ∀ (H1 : Heap) (locs1 : List Loc), ST G s (up w c0 t0 i.toNat z) H1 locs1 → W p l e R s m args below meth c H1 locs1 cells slots Q (F0 m (pc + 1) ls rest)) : W p l e R s m args below meth c H locs cells slots Q (F0 m pc ls (lV z :: iV i :: .ref (G.1 c0 t0) :: rest)) := by
  subst hN
  have h1 := hS.at ok
  rw [hs] at h1
  have h2 : H[G.1 c0 t0]? = some (arrV G.2.2.2.2.2 n (fun j => .long (Int64.ofInt (w c0 t0 j)))) := h1
  have hin := o_in hi hn
  have hc : (Int32.ofInt i).toNatClampNeg = i.toNat := o_clamp ⟨by omega, by omega⟩
  refine W.last M.1 M.2.1 h2 (M.kL n _) (fun q => by cases q) (by rw [arrV_size]; exact hin) rfl rfl hdg fun H1 e1 z1 oq => ?_
  refine kk H1 _ (hS.step ok up_off (fun j => up_inl h34 hz hS.1.2.2 _) ?_ z1 oq)
  rw [hs]
  show H1[G.1 c0 t0]? = some (arrV G.2.2.2.2.2 n (fun j => .long (Int64.ofInt (up w c0 t0 i.toNat z c0 t0 j))))
  rw [e1, arrV_store, hc]
  congr 2
  funext q
  by_cases hq : q = i.toNat
  · subst hq
    simp [updV, up]
  · simp [updV, up, hq]
/-- a static call with up to sixteen words below its arguments -/
theorem x_runS16 {y : MethodName} {bytes : ByteArray} {maxL mc ms n index : Nat} {ret : Option FieldType} {ws : List Cond} {rm : Room} {Pc : Array Value → State → Prop} {Qc : Array Value → State → Outcome → State → Prop} {free : Addr → Prop} {As st : List Value} (S : CallFix p m c cc nL s args Ts own) (hM : Met l y ws rm Pc Qc mc ms free) (cw : CallB R s args own index y bytes maxL ret ws rm mc ms n ∧ (Cond.static y).before args s = true) (hlo : 16 + (maxL + 11) + rm.locals ≤ R.locals) (hp : PreS s H Pc As)
    (hn : As.length = n) (hsize : ls.size = nL) (hst : st = As.reverse ++ rest) (hW : (rest.map fun v => v.category).sum ≤ 16) (hdg : decode cc pc = .ok (.invokestatic index, 3)) (hf : cells + mc ≤ R.cells ∧ slots + ms ≤ R.slots) :
    va_Run p l e R s m args below meth c H locs cells slots mc ms (F0 m pc ls st) rest (Qc As.toArray) (free) := by
  have hK : Back l R p e below s args y 3 16 (PreOf R mc ms Pc) (PostOf Qc mc ms free) := by
    obtain ⟨⟨hrc, hrs, hfr, -, hws, hcw, -, hini, -⟩, -⟩ := cw
    exact back_of (bytes := bytes) (maxL := maxL) (ret := ret) hM hp.1 hrc hrs hfr hlo hws hcw (fun a' U hW => word_at hW (Or.inl (by first | rfl | simp [Cond.onTables, Cond.keeps, Cond.steady])) hini)
  obtain ⟨⟨-, -, -, -, -, -, hcode, hini, hy, hlen, hl⟩, hstt⟩ := cw
  obtain ⟨hx, hb, hml, ho, -⟩ := S
  intro T hT X
  obtain ⟨v, vm₁, ⟨U', l2, c2, s2⟩, hW₁, X', ⟨g', mk, t, L, e1, e2, hq, h1, hL, h2, h3⟩, st⟩ := callS X hx (bytes := bytes) (maxL := maxL) (ret := ret) ho hl hstt hini hcode hy hK (g := F0 m pc ls st) rfl (hsize.trans hml.symm) (argsL := As) (rest := rest) (fun sig h => hn.trans (hlen sig h)) hst (by show 2 * 0 + _ ≤ _; omega) (by rw [hb]; exact hdg)
    (fun vm₁ hW₁ => ⟨hf.1, hf.2, hp.2 (T.setVm vm₁) hT hW₁⟩)
  dsimp only [Pt.U, Pt.locs, Pt.cells, Pt.slots] at X' e1 e2 h1 h2 h3 st
  subst h1; subst h2; subst h3
  exact ⟨v, (T.setVm vm₁).calling g' mk As.toArray, t, U', L, hT, X', hL, e1, e2, hq, st⟩
theorem x_contL {r : Int} {w1 : Wd} {a : Array Value} {st : List Value} (hr : va_Run p l e R s m args below meth c H locs cells slots 0 0 (F0 m pc ls st) rest (QlG G r w1 a) (GA G)) (hS : ST G s w H locs) (kk : ∀ (H1 : Heap) (locs1 : List Loc), InL r → ST G s w1 H1 locs1 → W p l e R s m args below meth c H1 locs1 cells slots Q (F0 m (pc + 3) ls (lV r :: rest))) : W p l e R s m args below meth c H locs cells slots Q (F0 m pc ls st) := by
  refine va_calll hr hS.2 (fun _ _ h => h) (fun _ h => h) (fun r' u t H1 locs1 ht hvm hw hB hz hk hS1 => ?_)
  obtain ⟨rfl, hi⟩ := hw
  exact kk H1 locs1 hi ⟨by rw [← ht]; exact hB, hS1⟩
theorem x_callTi {r : Int} {k : Room} {y : MethodName} {wsy : List Cond} {bytes : ByteArray} {maxL idx n : Nat} {ret : Option FieldType} {As st : List Value} {w1 : Wd} (M : MC p s m args meth c cc nL own Ts G) (hl : lv_has ls nL lv) (hS : ST G s w H locs) (hM : Met l y wsy k (PcG G w As) (QiG G r w1) 0 0 (GA G)) (cw : CallB R s args own idx y bytes maxL ret wsy k 0 0 n ∧ (Cond.static y).before args s = true) (hlo : 16 + (maxL + 11) + k.locals ≤ R.locals) (hn : As.length = n) (hcat : (rest.map fun v => v.category).sum ≤ 16) (hdg : decode cc pc = .ok (.invokestatic idx, 3)) (hst : st = As.reverse ++ rest) (hR : cells ≤ R.cells ∧ slots ≤ R.slots) (kk : ∀ (H1 : Heap) (locs1 : List Loc), InR r → ST G s w1 H1 locs1 → W p l e R s m args below meth c H1 locs1 cells slots Q (F0 m (pc + 3) ls (iV r :: rest))) : W p l e R s m args below meth c H locs cells slots Q (F0 m pc ls st) :=
  x_contI (x_runS16 (As := As) (rest := rest) ⟨M.1, M.2.1, M.2.2.1, M.2.2.2.1, M.2.2.2.2.1⟩ hM cw hlo ⟨pre_blind, fun U hU hW => ⟨rfl, by rw [hU]; exact hS.1, KK.warm hW M.2.2.2.2.2.2⟩⟩ hn hl.1 hst hcat hdg hR) hS kk
theorem x_callTl {r : Int} {k : Room} {y : MethodName} {wsy : List Cond} {bytes : ByteArray} {maxL idx n : Nat} {ret : Option FieldType} {As st : List Value} {w1 : Wd} (M : MC p s m args meth c cc nL own Ts G) (hl : lv_has ls nL lv) (hS : ST G s w H locs) (hM : Met l y wsy k (PcG G w As) (QlG G r w1) 0 0 (GA G)) (cw : CallB R s args own idx y bytes maxL ret wsy k 0 0 n ∧ (Cond.static y).before args s = true) (hlo : 16 + (maxL + 11) + k.locals ≤ R.locals) (hn : As.length = n) (hcat : (rest.map fun v => v.category).sum ≤ 16) (hdg : decode cc pc = .ok (.invokestatic idx, 3)) (hst : st = As.reverse ++ rest) (hR : cells ≤ R.cells ∧ slots ≤ R.slots) (kk : ∀ (H1 : Heap) (locs1 : List Loc), InL r → ST G s w1 H1 locs1 → W p l e R s m args below meth c H1 locs1 cells slots Q (F0 m (pc + 3) ls (lV r :: rest))) : W p l e R s m args below meth c H locs cells slots Q (F0 m pc ls st) :=
  x_contL (x_runS16 (As := As) (rest := rest) ⟨M.1, M.2.1, M.2.2.1, M.2.2.2.1, M.2.2.2.2.1⟩ hM cw hlo ⟨pre_blind, fun U hU hW => ⟨rfl, by rw [hU]; exact hS.1, KK.warm hW M.2.2.2.2.2.2⟩⟩ hn hl.1 hst hcat hdg hR) hS kk
theorem x_callTv {k : Room} {y : MethodName} {wsy : List Cond} {bytes : ByteArray} {maxL idx n : Nat} {ret : Option FieldType} {As st : List Value} {w1 : Wd} (M : MC p s m args meth c cc nL own Ts G) (hl : lv_has ls nL lv) (hS : ST G s w H locs) (hM : Met l y wsy k (PcG G w As) (QvG G w1) 0 0 (GA G)) (cw : CallB R s args own idx y bytes maxL ret wsy k 0 0 n ∧ (Cond.static y).before args s = true) (hlo : 16 + (maxL + 11) + k.locals ≤ R.locals) (hn : As.length = n) (hcat : (rest.map fun v => v.category).sum ≤ 16) (hdg : decode cc pc = .ok (.invokestatic idx, 3)) (hst : st = As.reverse ++ rest) (hR : cells ≤ R.cells ∧ slots ≤ R.slots) (kk : ∀ (H1 : Heap) (locs1 : List Loc), ST G s w1 H1 locs1 → W p l e R s m args below meth c H1 locs1 cells slots Q (F0 m (pc + 3) ls rest)) : W p l e R s m args below meth c H locs cells slots Q (F0 m pc ls st) :=
  x_contV (x_runS16 (As := As) (rest := rest) ⟨M.1, M.2.1, M.2.2.1, M.2.2.2.1, M.2.2.2.2.1⟩ hM cw hlo ⟨pre_blind, fun U hU hW => ⟨rfl, by rw [hU]; exact hS.1, KK.warm hW M.2.2.2.2.2.2⟩⟩ hn hl.1 hst hcat hdg hR) hS kk
theorem x_lret {z r : Int} {w' : Wd} (M : MC p s m args meth c cc nL own Ts G) (hr : meth.sig.returnType = some .long) (hf : some (z, w) = some (r, w')) (hS : ST G s w H locs) (hz : InL z) (hdg : decode cc pc = .ok (.lreturn, 1)) : W p l e R s m args below meth c H locs cells slots (MQ below (QlG G r w') args s cells slots (GA G)) (F0 m pc ls [lV z]) := by
  cases hf
  exact W.lret M.1 M.2.1 hr (fun t ht hW => ⟨⟨_, (), rfl, ⟨rfl, hz⟩, by show HP G w t.heap; rw [ht]; exact hS.1⟩, hS.2.F ht⟩) hS.2.2.2 hdg M.2.2.2.2.2.1
end RL
