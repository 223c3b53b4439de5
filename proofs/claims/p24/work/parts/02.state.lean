/-! THE WORLD of this claim: every object that the law makes, by kind c and number t; what it holds, place by place, as whole numbers -/
abbrev Wd : Type := Nat → Nat → Nat → Int
abbrev InR (z : Int) : Prop := -2147483648 ≤ z ∧ z ≤ 2147483647
abbrev InL (z : Int) : Prop := -9223372036854775808 ≤ z ∧ z ≤ 9223372036854775807
/-- what a place of a kind may hold -/
abbrev InC (c : Nat) (z : Int) : Prop := if c < 21 then InR z else if c < 30 then True else if c < 34 then InR z else InL z
theorem inC_of {c : Nat} {z : Int} (h : InR z) : InC c z := by
  unfold InC
  split
  · exact h
  split
  · trivial
  split
  · exact h
  · exact ⟨by omega, by omega⟩
theorem inC_l {c : Nat} {z : Int} (hc : 34 ≤ c) (h : InL z) : InC c z := by
  unfold InC
  rw [if_neg (by omega), if_neg (by omega), if_neg (by omega)]
  exact h
def up (w : Wd) (c t i : Nat) (z : Int) : Wd := fun c' t' i' => if c' = c ∧ t' = t ∧ i' = i then z else w c' t' i'
def cpy (w : Wd) (c0 t0 c1 t1 n : Nat) : Wd := fun c t i => if c = c1 ∧ t = t1 ∧ i < n then w c0 t0 i else w c t i
def gd {α : Type} (c : Prop) [Decidable c] (k : Option α) : Option α := if c then k else none
def bd (x : Option (Int × Wd)) (k : Int → Wd → Option (Int × Wd)) : Option (Int × Wd) := match x with
  | some y => k y.1 y.2
  | none => none
def xorI (x y : Int) : Int := (Int32.ofInt x ^^^ Int32.ofInt y).toInt
theorem gdt {α : Type} {c : Prop} [Decidable c] {k : Option α} {r : α} (h : gd c k = some r) : c ∧ k = some r := by
  unfold gd at h
  split at h
  · exact ⟨by assumption, h⟩
  · cases h
theorem bdt {x : Option (Int × Wd)} {k : Int → Wd → Option (Int × Wd)} {z : Int × Wd} (h : bd x k = some z) : ∃ (r : Int) (w : Wd), x = some (r, w) ∧ k r w = some z := by
  unfold bd at h
  split at h
  · rename_i y
    exact ⟨y.1, y.2, rfl, h⟩
  · cases h
theorem ift {α : Type} {c : Prop} [Decidable c] {a b : Option α} {r : α} (h : (if c then a else b) = some r) (hc : c) : a = some r := by rwa [if_pos hc] at h
theorem iff_ {α : Type} {c : Prop} [Decidable c] {a b : Option α} {r : α} (h : (if c then a else b) = some r) (hc : ¬ c) : b = some r := by rwa [if_neg hc] at h
theorem o_toInt {z : Int} (h : InR z) : (Int32.ofInt z).toInt = z := Int32.toInt_ofInt_of_le (by omega) (by omega)
theorem o_lt {x y : Int} (hx : InR x) (hy : InR y) : Int32.ofInt x < Int32.ofInt y ↔ x < y := by rw [Int32.lt_iff_toInt_lt, o_toInt hx, o_toInt hy]
theorem o_le {x y : Int} (hx : InR x) (hy : InR y) : Int32.ofInt x ≤ Int32.ofInt y ↔ x ≤ y := by rw [Int32.le_iff_toInt_le, o_toInt hx, o_toInt hy]
theorem o_eq {x y : Int} (hx : InR x) (hy : InR y) : Int32.ofInt x = Int32.ofInt y ↔ x = y := by rw [← Int32.toInt_inj, o_toInt hx, o_toInt hy]
theorem o_zero : (0 : Int32) = Int32.ofInt 0 := rfl
theorem o_clamp {z : Int} (h : InR z) : (Int32.ofInt z).toNatClampNeg = z.toNat := by
  show (Int32.ofInt z).toInt.toNat = z.toNat
  rw [o_toInt h]
theorem o_in {i : Int} {n : Nat} (h : 0 ≤ i ∧ i < (n : Int)) (hn : n < 2147483648) : ¬ (Int32.ofInt i < 0 ∨ n ≤ (Int32.ofInt i).toNatClampNeg) := by
  have hr : InR i := ⟨by omega, by omega⟩
  rw [o_zero, o_lt hr ⟨by decide, by decide⟩, o_clamp hr]
  omega
theorem o_inr (x : Int32) : InR x.toInt := by
  have h1 := Int32.le_toInt x
  have h2 := Int32.toInt_lt x
  exact ⟨by omega, by omega⟩
theorem o_of (x : Int32) : Int32.ofInt x.toInt = x := Int32.ofInt_toInt x
theorem o_div {x y : Int} (hx : InR x) (hy : InR y) (h0 : 0 ≤ x) (h1 : 0 < y) : Int32.ofInt x / Int32.ofInt y = Int32.ofInt (x / y) := by
  have hq : 0 ≤ x / y := Int.ediv_nonneg h0 (by omega)
  have hq2 : x / y ≤ x := Int.ediv_le_self y h0
  rw [← Int32.toInt_inj, o_toInt ⟨by omega, by omega⟩, Int32.toInt_div_of_ne_right _ _ (fun q => by
    have := congrArg Int32.toInt q
    rw [o_toInt hy, show (-1 : Int32).toInt = -1 from by decide] at this
    omega), o_toInt hx, o_toInt hy, Int.tdiv_eq_ediv_of_nonneg h0]
theorem o_rem {x y : Int} (hx : InR x) (hy : InR y) (h0 : 0 ≤ x) (h1 : 0 < y) : Int32.ofInt x - Int32.ofInt x / Int32.ofInt y * Int32.ofInt y = Int32.ofInt (x % y) := by
  rw [o_div hx hy h0 h1, ← Int32.ofInt_mul, ← Int32.ofInt_sub]
  congr 1
  rw [Int.emod_def, Int.mul_comm]
abbrev iV (z : Int) : Value := .int (Int32.ofInt z)
abbrev GG : Type := (Nat → Nat → Nat) × va_G × ClassId × ClassId × ClassId × ClassId
abbrev okc (c t : Nat) : Prop := (c < 10 ∧ t < 8) ∨ (10 ≤ c ∧ c < 21 ∧ t = 0) ∨ (30 ≤ c ∧ c < 37 ∧ t = 0)
def arI (G : GG) (n : Nat) (f : Nat → Int) : va_E := .inl (G.2.2.1, n, .inl (fun i => Int32.ofInt (f i)))
def arZ (G : GG) (n : Nat) (f : Nat → Int) : va_E := .inl (G.2.2.2.1, n, .inl (fun i => Int32.ofInt (f i)))
def arL (G : GG) (n : Nat) (f : Nat → Int) : va_E := .inl (G.2.2.2.2.2, n, .inr (.inl (fun i => Int64.ofInt (f i))))
def sE (G : GG) (w : Wd) (c t : Nat) : va_E := match c with
  | 0 => .inr (5, [.ref (G.1 1 t), .ref (G.1 2 t), .ref (G.1 8 t), iV (w 0 t 0), iV (w 0 t 1), iV (w 0 t 2), iV (w 0 t 3), iV (w 0 t 4), iV (w 0 t 5), iV (w 0 t 6)])
  | 1 => arI G 8 (w 1 t)
  | 2 => .inr (0, [.ref (G.1 3 t), .ref (G.1 4 t), .ref (G.1 5 t), .ref (G.1 6 t), .ref (G.1 7 t)])
  | 3 => arI G 260 (w 3 t)
  | 4 => arI G 260 (w 4 t)
  | 5 => arI G 260 (w 5 t)
  | 6 => arI G 260 (w 6 t)
  | 7 => arI G 520 (w 7 t)
  | 8 => .inr (3, [.ref (G.1 9 t), iV (w 8 t 0), iV (w 8 t 1)])
  | 9 => arI G 124 (w 9 t)
  | 10 => .inr (7, [.ref (G.1 0 0), .ref (G.1 0 1), .ref (G.1 11 0), .ref (G.1 13 0), .ref (G.1 17 0), .ref (G.1 19 0)])
  | 11 => .inr (2, [.ref (G.1 12 0), iV (w 11 t 0), iV (w 11 t 1)])
  | 12 => .inl (G.2.2.2.2.1, 6, .inr (.inr (.inr (.inr (fun i => some (G.1 0 (i + 2)))))))
  | 13 => .inr (4, [.ref (G.1 14 0), .ref (G.1 15 0), .ref (G.1 16 0), iV (w 13 t 0)])
  | 14 => arZ G 260 (w 14 t)
  | 15 => arI G 260 (w 15 t)
  | 16 => arZ G 40 (w 16 t)
  | 17 => .inr (6, [.ref (G.1 18 0), iV (w 17 t 0)])
  | 18 => arI G 80 (w 18 t)
  | 19 => .inr (1, [.ref (G.1 20 0), iV (w 19 t 0), iV (w 19 t 1)])
  | 20 => arI G 3 (w 20 t)
  | 30 => arI G 9 (w 30 t)
  | 31 => arI G 8 (w 31 t)
  | 32 => arI G 40 (w 32 t)
  | 33 => arI G 64 (w 33 t)
  | 34 => arL G 64 (w 34 t)
  | 35 => arL G 64 (w 35 t)
  | _ => arL G 64 (w c t)
theorem sE_congr {G : GG} {w w' : Wd} {c t : Nat} (h : ∀ i, w c t i = w' c t i) : sE G w c t = sE G w' c t := by
  have h' : w c t = w' c t := funext h
  unfold sE
  split <;> simp only [h']
/-- the places are apart -/
def GI (G : GG) : Prop := ∀ c t c' t', okc c t → okc c' t' → G.1 c t = G.1 c' t' → c = c' ∧ t = t'
def GA (G : GG) : Nat → Prop := fun q => ∃ c t, okc c t ∧ q = G.1 c t
def HP (G : GG) (w : Wd) (H : Heap) : Prop := GI G ∧ (∀ c t, okc c t → va_at G.2.1 vwCl (G.1 c t, sE G w c t) H) ∧ ∀ c t i, InC c (w c t i)
/-- the links between nest mates -/
def n_125 : Cond := .fieldLinkNest "NamedMoves" 125 "NamedMoves$Store" "copies" "LNamedMoves$Copies;" "NamedMoves"
def n_173 : Cond := .fieldLinkNest "NamedMoves" 125 "NamedMoves$Store" "copies" "LNamedMoves$Copies;" "NamedMoves"
def n_137 : Cond := .fieldLinkNest "NamedMoves$Store" 137 "NamedMoves$Copies" "names" "[I" "NamedMoves"
def n_43 : Cond := .methodLinkNest RX0 43 yX7_isName "NamedMoves"
def n_127 : Cond := .methodLinkNest RX5 127 yX7_isName "NamedMoves"
def n_71 : Cond := .methodLinkNest RX5 71 yX7_isHook "NamedMoves"
def KN (U : State) : Prop := va_Nw n_125 U ∧ va_Nw n_173 U ∧ va_Nw n_137 U ∧ va_Nw n_43 U ∧ va_Nw n_127 U ∧ va_Nw n_71 U
def KK (G : GG) (U : State) : Prop := va_K G.2.1 vwCl [(G.2.2.1, .int), (G.2.2.2.1, .boolean), (G.2.2.2.2.1, .object "NamedMoves$Store"), (G.2.2.2.2.2, .long)] U ∧ KN U
theorem KK.warm {G : GG} {s U : State} (hW : s.WarmedH U.vm) (h : KK G s) : KK G U :=
  ⟨va_K.moved hW.alike h.1, va_Nw.warmF hW h.2.1, va_Nw.warmF hW h.2.2.1, va_Nw.warmF hW h.2.2.2.1, va_Nw.warmM hW h.2.2.2.2.1, va_Nw.warmM hW h.2.2.2.2.2.1, va_Nw.warmM hW h.2.2.2.2.2.2⟩
theorem KK.calling {G : GG} {U : State} {g : JFrame} {mk : MethodId} {a : Array Value} (h : KK G U) : KK G (U.calling g mk a) :=
  ⟨va_K.moved (u := U) (U := U.calling g mk a) (Vm.Alike.refl U.vm) h.1, va_Nw.same rfl rfl h.2.1, va_Nw.same rfl rfl h.2.2.1, va_Nw.same rfl rfl h.2.2.2.1, va_Nw.same rfl rfl h.2.2.2.2.1, va_Nw.same rfl rfl h.2.2.2.2.2.1, va_Nw.same rfl rfl h.2.2.2.2.2.2⟩
/-- what stays the same in a method's walk -/
def MC (p : Program) (s : State) (m : MethodId) (args : Array Value) (meth : Method) (c : Code) (cc : ByteArray) (nL : Nat) (own : String) (Ts : List Cond) (G : GG) : Prop :=
  p.tables.exec = Jvm.exec ∧ c.code = cc ∧ c.maxLocals = nL ∧ s.vm.findClass own = some m.cls ∧ (∀ w ∈ Ts, w.before args s = true) ∧ meth.locks = false ∧ KK G s
/-- what changes -/
def ST (G : GG) (s : State) (w : Wd) (H : Heap) (locs : List Loc) : Prop := HP G w H ∧ va_S (GA G) s.heap H locs
theorem ST.inr {G : GG} {s : State} {w : Wd} {H : Heap} {locs : List Loc} (h : ST G s w H locs) (c t i : Nat) (hc : c < 21 ∨ (30 ≤ c ∧ c < 34) := by decide) : InR (w c t i) := by
  have h1 := h.1.2.2 c t i
  unfold InC at h1
  by_cases h2 : c < 21
  · rw [if_pos h2] at h1
    exact h1
  · rw [if_neg h2, if_neg (by omega), if_pos (by omega)] at h1
    exact h1
theorem ST.inl {G : GG} {s : State} {w : Wd} {H : Heap} {locs : List Loc} (h : ST G s w H locs) (c t i : Nat) (hc : 34 ≤ c := by decide) : InL (w c t i) := by
  have h1 := h.1.2.2 c t i
  unfold InC at h1
  rw [if_neg (by omega), if_neg (by omega), if_neg (by omega)] at h1
  exact h1
theorem ST.at {G : GG} {s : State} {w : Wd} {H : Heap} {locs : List Loc} (h : ST G s w H locs) {c t : Nat} (ok : okc c t) : va_at G.2.1 vwCl (G.1 c t, sE G w c t) H := h.1.2.1 c t ok
/-- one object changed -/
theorem ST.step {G : GG} {s : State} {w w' : Wd} {H H1 : Heap} {locs : List Loc} (h : ST G s w H locs) {c t k : Nat} (ok : okc c t) (hw : ∀ c' t', ¬ (c' = c ∧ t' = t) → ∀ i, w c' t' i = w' c' t' i) (hr : ∀ i, InC c (w' c t i)) (hat : va_at G.2.1 vwCl (G.1 c t, sE G w' c t) H1) (z : H1.size = H.size) (oq : ∀ q : Nat, q ≠ G.1 c t → H1[q]? = H[q]?) : ST G s w' H1 (locs ++ [⟨G.1 c t, k⟩]) := by
  obtain ⟨⟨hI, hA, hR⟩, hS⟩ := h
  refine ⟨⟨hI, fun c' t' ok' => ?_, fun c' t' i => ?_⟩, hS.put z oq ⟨c, t, ok, rfl⟩⟩
  · by_cases hc : c' = c ∧ t' = t
    · obtain ⟨rfl, rfl⟩ := hc
      exact hat
    · rw [← sE_congr (fun i => hw c' t' hc i)]
      exact (hA c' t' ok').kept (oq _ (fun q => hc (hI c' t' c t ok' ok q)))
  · by_cases hc : c' = c ∧ t' = t
    · obtain ⟨rfl, rfl⟩ := hc
      exact hr i
    · rw [← hw c' t' hc i]
      exact hR c' t' i
abbrev rmk (k : Nat) : Room := { frames := k, cells := 0, slots := 0, locals := 32 * k }
abbrev PcG (G : GG) (w : Wd) (As : List Value) : Array Value → State → Prop := va_Pc As (fun U => HP G w U.heap ∧ KK G U)
abbrev QiG (G : GG) (r : Int) (w : Wd) : Array Value → State → Outcome → State → Prop := va_Qi (fun (x : Int32) (_ : Unit) => x = Int32.ofInt r ∧ InR r) (fun _ t => HP G w t.heap) (GA G)
abbrev QvG (G : GG) (w : Wd) : Array Value → State → Outcome → State → Prop := va_Qv (fun (_ : Unit) => True) (fun _ t => HP G w t.heap) (GA G)
section RW
variable {p : Program} {l : Launch} {e : Env} {R : Room} {s : State} {m : MethodId} {args : Array Value} {below : List Frame} {meth : Method} {c : Code} {H : Heap} {locs : List Loc} {cells slots : Nat} {Q : State → Prop}
variable {cc : ByteArray} {nL : Nat} {own : String} {Ts : List Cond} {G : GG} {pc : Nat} {ls : Array Slot} {rest : List Value} {lv lv' : List (Nat × Value)} {w : Wd}
theorem x_iconst (M : MC p s m args meth c cc nL own Ts G) {n : Int} (hdg : decode cc pc = .ok (.iconst n, 1)) (k : W p l e R s m args below meth c H locs cells slots Q (F0 m (pc + 1) ls (iV n :: rest))) : W p l e R s m args below meth c H locs cells slots Q (F0 m pc ls rest) := lv_iconst M.1 M.2.1 hdg rfl k
theorem x_bipush (M : MC p s m args meth c cc nL own Ts G) {n : Int} (hdg : decode cc pc = .ok (.bipush n, 2)) (hv : (Int8.ofInt n).toInt32 = Int32.ofInt n) (k : W p l e R s m args below meth c H locs cells slots Q (F0 m (pc + 2) ls (iV n :: rest))) : W p l e R s m args below meth c H locs cells slots Q (F0 m pc ls rest) := lv_bipush M.1 M.2.1 hdg hv k
theorem x_sipush (M : MC p s m args meth c cc nL own Ts G) {n : Int} (hdg : decode cc pc = .ok (.sipush n, 3)) (hv : (Int16.ofInt n).toInt32 = Int32.ofInt n) (k : W p l e R s m args below meth c H locs cells slots Q (F0 m (pc + 3) ls (iV n :: rest))) : W p l e R s m args below meth c H locs cells slots Q (F0 m pc ls rest) := lv_sipush M.1 M.2.1 hdg hv k
theorem x_iload_n (M : MC p s m args meth c cc nL own Ts G) (hl : lv_has ls nL lv) {k : Fin 4} (hdg : decode cc pc = .ok (.iload_n k, 1)) (j : Nat) {z : Int} (hj : lv[j]? = some ((k : Nat), iV z)) (kk : W p l e R s m args below meth c H locs cells slots Q (F0 m (pc + 1) ls (iV z :: rest))) : W p l e R s m args below meth c H locs cells slots Q (F0 m pc ls rest) := lv_iload_n M.1 M.2.1 hdg rfl (lv_at hl j hj) kk
theorem x_iload (M : MC p s m args meth c cc nL own Ts G) (hl : lv_has ls nL lv) {i : Nat} (hdg : decode cc pc = .ok (.iload i, 2)) (j : Nat) {z : Int} (hj : lv[j]? = some (i, iV z)) (kk : W p l e R s m args below meth c H locs cells slots Q (F0 m (pc + 2) ls (iV z :: rest))) : W p l e R s m args below meth c H locs cells slots Q (F0 m pc ls rest) := lv_iload M.1 M.2.1 hdg (lv_at hl j hj) kk
theorem x_aload_n (M : MC p s m args meth c cc nL own Ts G) (hl : lv_has ls nL lv) {k : Fin 4} (hdg : decode cc pc = .ok (.aload_n k, 1)) (j : Nat) {a : Nat} (hj : lv[j]? = some ((k : Nat), .ref a)) (kk : W p l e R s m args below meth c H locs cells slots Q (F0 m (pc + 1) ls (.ref a :: rest))) : W p l e R s m args below meth c H locs cells slots Q (F0 m pc ls rest) := lv_aload_n M.1 M.2.1 hdg rfl (lv_at hl j hj) kk
theorem x_istore_n (M : MC p s m args meth c cc nL own Ts G) (hl : lv_has ls nL lv) {k : Fin 4} (hdg : decode cc pc = .ok (.istore_n k, 1)) {z : Int} (hn : (k : Nat) < nL) (lv' : List (Nat × Value)) (he : ((k : Nat), iV z) :: lv.filter (fun q => !(q.1 == (k : Nat)) && !(q.1 + 1 == (k : Nat) && q.2.category == 2)) = lv') (kk : ∀ ls' : Array Slot, lv_has ls' nL lv' → W p l e R s m args below meth c H locs cells slots Q (F0 m (pc + 1) ls' rest)) : W p l e R s m args below meth c H locs cells slots Q (F0 m pc ls (iV z :: rest)) := lv_istore_n M.1 M.2.1 hdg rfl hl hn he kk
theorem x_istore (M : MC p s m args meth c cc nL own Ts G) (hl : lv_has ls nL lv) {i : Nat} (hdg : decode cc pc = .ok (.istore i, 2)) {z : Int} (hn : i < nL) (lv' : List (Nat × Value)) (he : (i, iV z) :: lv.filter (fun q => !(q.1 == i) && !(q.1 + 1 == i && q.2.category == 2)) = lv') (kk : ∀ ls' : Array Slot, lv_has ls' nL lv' → W p l e R s m args below meth c H locs cells slots Q (F0 m (pc + 2) ls' rest)) : W p l e R s m args below meth c H locs cells slots Q (F0 m pc ls (iV z :: rest)) := lv_istore M.1 M.2.1 hdg hl hn he kk
theorem x_astore_n (M : MC p s m args meth c cc nL own Ts G) (hl : lv_has ls nL lv) {k : Fin 4} (hdg : decode cc pc = .ok (.astore_n k, 1)) {a : Nat} (hn : (k : Nat) < nL) (lv' : List (Nat × Value)) (he : ((k : Nat), Value.ref a) :: lv.filter (fun q => !(q.1 == (k : Nat)) && !(q.1 + 1 == (k : Nat) && q.2.category == 2)) = lv') (kk : ∀ ls' : Array Slot, lv_has ls' nL lv' → W p l e R s m args below meth c H locs cells slots Q (F0 m (pc + 1) ls' rest)) : W p l e R s m args below meth c H locs cells slots Q (F0 m pc ls (.ref a :: rest)) := lv_astore_n M.1 M.2.1 hdg rfl hl hn he kk
theorem x_iinc (M : MC p s m args meth c cc nL own Ts G) (hl : lv_has ls nL lv) {i : Nat} {n : Int} (hdg : decode cc pc = .ok (.iinc i n, 3)) (j : Nat) {z : Int} (hj : lv[j]? = some (i, iV z)) (hn : i < nL) (lv' : List (Nat × Value)) (he : (i, iV (z + n)) :: lv.filter (fun q => !(q.1 == i) && !(q.1 + 1 == i && q.2.category == 2)) = lv') (kk : ∀ ls' : Array Slot, lv_has ls' nL lv' → W p l e R s m args below meth c H locs cells slots Q (F0 m (pc + 3) ls' rest)) : W p l e R s m args below meth c H locs cells slots Q (F0 m pc ls rest) := lv_iinc M.1 M.2.1 hdg hl hj (Int32.ofInt_add z n).symm hn he kk
theorem x_iadd (M : MC p s m args meth c cc nL own Ts G) {x y : Int} (hdg : decode cc pc = .ok (.iadd, 1)) (k : W p l e R s m args below meth c H locs cells slots Q (F0 m (pc + 1) ls (iV (x + y) :: rest))) : W p l e R s m args below meth c H locs cells slots Q (F0 m pc ls (iV y :: iV x :: rest)) := lv_iadd M.1 M.2.1 hdg (by rw [← Int32.ofInt_add]; exact k)
theorem x_isub (M : MC p s m args meth c cc nL own Ts G) {x y : Int} (hdg : decode cc pc = .ok (.isub, 1)) (k : W p l e R s m args below meth c H locs cells slots Q (F0 m (pc + 1) ls (iV (x - y) :: rest))) : W p l e R s m args below meth c H locs cells slots Q (F0 m pc ls (iV y :: iV x :: rest)) := lv_isub M.1 M.2.1 hdg (by rw [← Int32.ofInt_sub]; exact k)
theorem x_imul (M : MC p s m args meth c cc nL own Ts G) {x y : Int} (hdg : decode cc pc = .ok (.imul, 1)) (k : W p l e R s m args below meth c H locs cells slots Q (F0 m (pc + 1) ls (iV (x * y) :: rest))) : W p l e R s m args below meth c H locs cells slots Q (F0 m pc ls (iV y :: iV x :: rest)) := lv_imul M.1 M.2.1 hdg (by rw [← Int32.ofInt_mul]; exact k)
theorem x_ixor (M : MC p s m args meth c cc nL own Ts G) {x y : Int} (hdg : decode cc pc = .ok (.ixor, 1)) (k : W p l e R s m args below meth c H locs cells slots Q (F0 m (pc + 1) ls (iV (xorI x y) :: rest))) : W p l e R s m args below meth c H locs cells slots Q (F0 m pc ls (iV y :: iV x :: rest)) := lv_ixor M.1 M.2.1 hdg (by rw [← o_of (Int32.ofInt x ^^^ Int32.ofInt y)]; exact k)
theorem x_idiv (M : MC p s m args meth c cc nL own Ts G) {x y : Int} (hx : InR x) (hy : InR y) (h : 0 ≤ x ∧ 0 < y) (hdg : decode cc pc = .ok (.idiv, 1)) (k : W p l e R s m args below meth c H locs cells slots Q (F0 m (pc + 1) ls (iV (x / y) :: rest))) : W p l e R s m args below meth c H locs cells slots Q (F0 m pc ls (iV y :: iV x :: rest)) := lv_idiv M.1 M.2.1 hdg (fun q => by rw [o_zero, o_eq hy ⟨by decide, by decide⟩] at q; omega) (by rw [o_div hx hy h.1 h.2]; exact k)
theorem x_irem (M : MC p s m args meth c cc nL own Ts G) {x y : Int} (hx : InR x) (hy : InR y) (h : 0 ≤ x ∧ 0 < y) (hdg : decode cc pc = .ok (.irem, 1)) (k : W p l e R s m args below meth c H locs cells slots Q (F0 m (pc + 1) ls (iV (x % y) :: rest))) : W p l e R s m args below meth c H locs cells slots Q (F0 m pc ls (iV y :: iV x :: rest)) := lv_irem M.1 M.2.1 hdg (fun q => by rw [o_zero, o_eq hy ⟨by decide, by decide⟩] at q; omega) (by rw [o_rem hx hy h.1 h.2]; exact k)
theorem x_dup (M : MC p s m args meth c cc nL own Ts G) {va : Value} (hdg : decode cc pc = .ok (.dup, 1)) (hva : va.category = 1) (k : W p l e R s m args below meth c H locs cells slots Q (F0 m (pc + 1) ls (va :: va :: rest))) : W p l e R s m args below meth c H locs cells slots Q (F0 m pc ls (va :: rest)) := lv_dup M.1 M.2.1 hdg hva k
theorem x_pop (M : MC p s m args meth c cc nL own Ts G) {va : Value} (hdg : decode cc pc = .ok (.pop, 1)) (hva : va.category = 1) (k : W p l e R s m args below meth c H locs cells slots Q (F0 m (pc + 1) ls rest)) : W p l e R s m args below meth c H locs cells slots Q (F0 m pc ls (va :: rest)) := lv_pop M.1 M.2.1 hdg hva k
theorem x_dup2 (M : MC p s m args meth c cc nL own Ts G) {va vb : Value} (hdg : decode cc pc = .ok (.dup2, 1)) (hva : va.category = 1) (hvb : vb.category = 1) (k : W p l e R s m args below meth c H locs cells slots Q (F0 m (pc + 1) ls (va :: vb :: va :: vb :: rest))) : W p l e R s m args below meth c H locs cells slots Q (F0 m pc ls (va :: vb :: rest)) := lv_dup2_11 M.1 M.2.1 hdg hva hvb k
theorem x_goto (M : MC p s m args meth c cc nL own Ts G) {off : Int} {tgt : Nat} (hdg : decode cc pc = .ok (.goto off, 3)) (ht : (pc : Int) + off = (tgt : Int)) (k : W p l e R s m args below meth c H locs cells slots Q (F0 m tgt ls rest)) : W p l e R s m args below meth c H locs cells slots Q (F0 m pc ls rest) := lv_goto M.1 M.2.1 hdg ht k
theorem x_ifnull (M : MC p s m args meth c cc nL own Ts G) {a : Nat} {off : Int} (hdg : decode cc pc = .ok (.ifnull off, 3)) (k : W p l e R s m args below meth c H locs cells slots Q (F0 m (pc + 3) ls rest)) : W p l e R s m args below meth c H locs cells slots Q (F0 m pc ls (.ref a :: rest)) := lv_ifnull M.1 M.2.1 hdg k
theorem x_if_eq (M : MC p s m args meth c cc nL own Ts G) {x : Int} (hx : InR x) {off : Int} {tgt : Nat} (hdg : decode cc pc = .ok (.ifCond .eq off, 3)) (ht : (pc : Int) + off = (tgt : Int)) (kt : x = 0 → W p l e R s m args below meth c H locs cells slots Q (F0 m tgt ls rest)) (kf : ¬ (x = 0) → W p l e R s m args below meth c H locs cells slots Q (F0 m (pc + 3) ls rest)) : W p l e R s m args below meth c H locs cells slots Q (F0 m pc ls (iV x :: rest)) := by
  refine lv_if_eq M.1 M.2.1 hdg ht (fun h => kt ?_) (fun h => kf ?_)
  · rw [o_zero] at h
    have z0 : InR 0 := ⟨by decide, by decide⟩
    first | exact (o_eq hx z0).mp h | exact (o_lt hx z0).mp h | exact (o_le hx z0).mp h | exact (o_lt z0 hx).mp h | exact (o_le z0 hx).mp h | exact fun q => h ((o_eq hx z0).mpr q)
  · rw [o_zero] at h
    have z0 : InR 0 := ⟨by decide, by decide⟩
    first | exact fun q => h ((o_eq hx z0).mpr q) | exact fun q => h ((o_lt hx z0).mpr q) | exact fun q => h ((o_le hx z0).mpr q) | exact fun q => h ((o_lt z0 hx).mpr q) | exact fun q => h ((o_le z0 hx).mpr q) | exact fun q => q ((o_eq hx z0).mp h)
theorem x_icmp_eq (M : MC p s m args meth c cc nL own Ts G) {x y : Int} (hx : InR x) (hy : InR y) {off : Int} {tgt : Nat} (hdg : decode cc pc = .ok (.if_icmp .eq off, 3)) (ht : (pc : Int) + off = (tgt : Int)) (kt : x = y → W p l e R s m args below meth c H locs cells slots Q (F0 m tgt ls rest)) (kf : ¬ (x = y) → W p l e R s m args below meth c H locs cells slots Q (F0 m (pc + 3) ls rest)) : W p l e R s m args below meth c H locs cells slots Q (F0 m pc ls (iV y :: iV x :: rest)) := by
  refine lv_icmp_eq M.1 M.2.1 hdg ht (fun h => kt ?_) (fun h => kf ?_)
  · first | exact (o_eq hx hy).mp h | exact (o_lt hx hy).mp h | exact (o_le hx hy).mp h | exact (o_lt hy hx).mp h | exact (o_le hy hx).mp h | exact fun q => h ((o_eq hx hy).mpr q)
  · first | exact fun q => h ((o_eq hx hy).mpr q) | exact fun q => h ((o_lt hx hy).mpr q) | exact fun q => h ((o_le hx hy).mpr q) | exact fun q => h ((o_lt hy hx).mpr q) | exact fun q => h ((o_le hy hx).mpr q) | exact fun q => q ((o_eq hx hy).mp h)
theorem x_if_ne (M : MC p s m args meth c cc nL own Ts G) {x : Int} (hx : InR x) {off : Int} {tgt : Nat} (hdg : decode cc pc = .ok (.ifCond .ne off, 3)) (ht : (pc : Int) + off = (tgt : Int)) (kt : ¬ x = 0 → W p l e R s m args below meth c H locs cells slots Q (F0 m tgt ls rest)) (kf : ¬ (¬ x = 0) → W p l e R s m args below meth c H locs cells slots Q (F0 m (pc + 3) ls rest)) : W p l e R s m args below meth c H locs cells slots Q (F0 m pc ls (iV x :: rest)) := by
  refine lv_if_ne M.1 M.2.1 hdg ht (fun h => kt ?_) (fun h => kf ?_)
  · rw [o_zero] at h
    have z0 : InR 0 := ⟨by decide, by decide⟩
    first | exact (o_eq hx z0).mp h | exact (o_lt hx z0).mp h | exact (o_le hx z0).mp h | exact (o_lt z0 hx).mp h | exact (o_le z0 hx).mp h | exact fun q => h ((o_eq hx z0).mpr q)
  · rw [o_zero] at h
    have z0 : InR 0 := ⟨by decide, by decide⟩
    first | exact fun q => h ((o_eq hx z0).mpr q) | exact fun q => h ((o_lt hx z0).mpr q) | exact fun q => h ((o_le hx z0).mpr q) | exact fun q => h ((o_lt z0 hx).mpr q) | exact fun q => h ((o_le z0 hx).mpr q) | exact fun q => q ((o_eq hx z0).mp h)
theorem x_icmp_ne (M : MC p s m args meth c cc nL own Ts G) {x y : Int} (hx : InR x) (hy : InR y) {off : Int} {tgt : Nat} (hdg : decode cc pc = .ok (.if_icmp .ne off, 3)) (ht : (pc : Int) + off = (tgt : Int)) (kt : ¬ x = y → W p l e R s m args below meth c H locs cells slots Q (F0 m tgt ls rest)) (kf : ¬ (¬ x = y) → W p l e R s m args below meth c H locs cells slots Q (F0 m (pc + 3) ls rest)) : W p l e R s m args below meth c H locs cells slots Q (F0 m pc ls (iV y :: iV x :: rest)) := by
  refine lv_icmp_ne M.1 M.2.1 hdg ht (fun h => kt ?_) (fun h => kf ?_)
  · first | exact (o_eq hx hy).mp h | exact (o_lt hx hy).mp h | exact (o_le hx hy).mp h | exact (o_lt hy hx).mp h | exact (o_le hy hx).mp h | exact fun q => h ((o_eq hx hy).mpr q)
  · first | exact fun q => h ((o_eq hx hy).mpr q) | exact fun q => h ((o_lt hx hy).mpr q) | exact fun q => h ((o_le hx hy).mpr q) | exact fun q => h ((o_lt hy hx).mpr q) | exact fun q => h ((o_le hy hx).mpr q) | exact fun q => q ((o_eq hx hy).mp h)
theorem x_if_lt (M : MC p s m args meth c cc nL own Ts G) {x : Int} (hx : InR x) {off : Int} {tgt : Nat} (hdg : decode cc pc = .ok (.ifCond .lt off, 3)) (ht : (pc : Int) + off = (tgt : Int)) (kt : x < 0 → W p l e R s m args below meth c H locs cells slots Q (F0 m tgt ls rest)) (kf : ¬ (x < 0) → W p l e R s m args below meth c H locs cells slots Q (F0 m (pc + 3) ls rest)) : W p l e R s m args below meth c H locs cells slots Q (F0 m pc ls (iV x :: rest)) := by
  refine lv_if_lt M.1 M.2.1 hdg ht (fun h => kt ?_) (fun h => kf ?_)
  · rw [o_zero] at h
    have z0 : InR 0 := ⟨by decide, by decide⟩
    first | exact (o_eq hx z0).mp h | exact (o_lt hx z0).mp h | exact (o_le hx z0).mp h | exact (o_lt z0 hx).mp h | exact (o_le z0 hx).mp h | exact fun q => h ((o_eq hx z0).mpr q)
  · rw [o_zero] at h
    have z0 : InR 0 := ⟨by decide, by decide⟩
    first | exact fun q => h ((o_eq hx z0).mpr q) | exact fun q => h ((o_lt hx z0).mpr q) | exact fun q => h ((o_le hx z0).mpr q) | exact fun q => h ((o_lt z0 hx).mpr q) | exact fun q => h ((o_le z0 hx).mpr q) | exact fun q => q ((o_eq hx z0).mp h)
theorem x_icmp_lt (M : MC p s m args meth c cc nL own Ts G) {x y : Int} (hx : InR x) (hy : InR y) {off : Int} {tgt : Nat} (hdg : decode cc pc = .ok (.if_icmp .lt off, 3)) (ht : (pc : Int) + off = (tgt : Int)) (kt : x < y → W p l e R s m args below meth c H locs cells slots Q (F0 m tgt ls rest)) (kf : ¬ (x < y) → W p l e R s m args below meth c H locs cells slots Q (F0 m (pc + 3) ls rest)) : W p l e R s m args below meth c H locs cells slots Q (F0 m pc ls (iV y :: iV x :: rest)) := by
  refine lv_icmp_lt M.1 M.2.1 hdg ht (fun h => kt ?_) (fun h => kf ?_)
  · first | exact (o_eq hx hy).mp h | exact (o_lt hx hy).mp h | exact (o_le hx hy).mp h | exact (o_lt hy hx).mp h | exact (o_le hy hx).mp h | exact fun q => h ((o_eq hx hy).mpr q)
  · first | exact fun q => h ((o_eq hx hy).mpr q) | exact fun q => h ((o_lt hx hy).mpr q) | exact fun q => h ((o_le hx hy).mpr q) | exact fun q => h ((o_lt hy hx).mpr q) | exact fun q => h ((o_le hy hx).mpr q) | exact fun q => q ((o_eq hx hy).mp h)
theorem x_if_ge (M : MC p s m args meth c cc nL own Ts G) {x : Int} (hx : InR x) {off : Int} {tgt : Nat} (hdg : decode cc pc = .ok (.ifCond .ge off, 3)) (ht : (pc : Int) + off = (tgt : Int)) (kt : 0 ≤ x → W p l e R s m args below meth c H locs cells slots Q (F0 m tgt ls rest)) (kf : ¬ (0 ≤ x) → W p l e R s m args below meth c H locs cells slots Q (F0 m (pc + 3) ls rest)) : W p l e R s m args below meth c H locs cells slots Q (F0 m pc ls (iV x :: rest)) := by
  refine lv_if_ge M.1 M.2.1 hdg ht (fun h => kt ?_) (fun h => kf ?_)
  · rw [o_zero] at h
    have z0 : InR 0 := ⟨by decide, by decide⟩
    first | exact (o_eq hx z0).mp h | exact (o_lt hx z0).mp h | exact (o_le hx z0).mp h | exact (o_lt z0 hx).mp h | exact (o_le z0 hx).mp h | exact fun q => h ((o_eq hx z0).mpr q)
  · rw [o_zero] at h
    have z0 : InR 0 := ⟨by decide, by decide⟩
    first | exact fun q => h ((o_eq hx z0).mpr q) | exact fun q => h ((o_lt hx z0).mpr q) | exact fun q => h ((o_le hx z0).mpr q) | exact fun q => h ((o_lt z0 hx).mpr q) | exact fun q => h ((o_le z0 hx).mpr q) | exact fun q => q ((o_eq hx z0).mp h)
theorem x_icmp_ge (M : MC p s m args meth c cc nL own Ts G) {x y : Int} (hx : InR x) (hy : InR y) {off : Int} {tgt : Nat} (hdg : decode cc pc = .ok (.if_icmp .ge off, 3)) (ht : (pc : Int) + off = (tgt : Int)) (kt : y ≤ x → W p l e R s m args below meth c H locs cells slots Q (F0 m tgt ls rest)) (kf : ¬ (y ≤ x) → W p l e R s m args below meth c H locs cells slots Q (F0 m (pc + 3) ls rest)) : W p l e R s m args below meth c H locs cells slots Q (F0 m pc ls (iV y :: iV x :: rest)) := by
  refine lv_icmp_ge M.1 M.2.1 hdg ht (fun h => kt ?_) (fun h => kf ?_)
  · first | exact (o_eq hx hy).mp h | exact (o_lt hx hy).mp h | exact (o_le hx hy).mp h | exact (o_lt hy hx).mp h | exact (o_le hy hx).mp h | exact fun q => h ((o_eq hx hy).mpr q)
  · first | exact fun q => h ((o_eq hx hy).mpr q) | exact fun q => h ((o_lt hx hy).mpr q) | exact fun q => h ((o_le hx hy).mpr q) | exact fun q => h ((o_lt hy hx).mpr q) | exact fun q => h ((o_le hy hx).mpr q) | exact fun q => q ((o_eq hx hy).mp h)
theorem x_if_gt (M : MC p s m args meth c cc nL own Ts G) {x : Int} (hx : InR x) {off : Int} {tgt : Nat} (hdg : decode cc pc = .ok (.ifCond .gt off, 3)) (ht : (pc : Int) + off = (tgt : Int)) (kt : 0 < x → W p l e R s m args below meth c H locs cells slots Q (F0 m tgt ls rest)) (kf : ¬ (0 < x) → W p l e R s m args below meth c H locs cells slots Q (F0 m (pc + 3) ls rest)) : W p l e R s m args below meth c H locs cells slots Q (F0 m pc ls (iV x :: rest)) := by
  refine lv_if_gt M.1 M.2.1 hdg ht (fun h => kt ?_) (fun h => kf ?_)
  · rw [o_zero] at h
    have z0 : InR 0 := ⟨by decide, by decide⟩
    first | exact (o_eq hx z0).mp h | exact (o_lt hx z0).mp h | exact (o_le hx z0).mp h | exact (o_lt z0 hx).mp h | exact (o_le z0 hx).mp h | exact fun q => h ((o_eq hx z0).mpr q)
  · rw [o_zero] at h
    have z0 : InR 0 := ⟨by decide, by decide⟩
    first | exact fun q => h ((o_eq hx z0).mpr q) | exact fun q => h ((o_lt hx z0).mpr q) | exact fun q => h ((o_le hx z0).mpr q) | exact fun q => h ((o_lt z0 hx).mpr q) | exact fun q => h ((o_le z0 hx).mpr q) | exact fun q => q ((o_eq hx z0).mp h)
theorem x_icmp_gt (M : MC p s m args meth c cc nL own Ts G) {x y : Int} (hx : InR x) (hy : InR y) {off : Int} {tgt : Nat} (hdg : decode cc pc = .ok (.if_icmp .gt off, 3)) (ht : (pc : Int) + off = (tgt : Int)) (kt : y < x → W p l e R s m args below meth c H locs cells slots Q (F0 m tgt ls rest)) (kf : ¬ (y < x) → W p l e R s m args below meth c H locs cells slots Q (F0 m (pc + 3) ls rest)) : W p l e R s m args below meth c H locs cells slots Q (F0 m pc ls (iV y :: iV x :: rest)) := by
  refine lv_icmp_gt M.1 M.2.1 hdg ht (fun h => kt ?_) (fun h => kf ?_)
  · first | exact (o_eq hx hy).mp h | exact (o_lt hx hy).mp h | exact (o_le hx hy).mp h | exact (o_lt hy hx).mp h | exact (o_le hy hx).mp h | exact fun q => h ((o_eq hx hy).mpr q)
  · first | exact fun q => h ((o_eq hx hy).mpr q) | exact fun q => h ((o_lt hx hy).mpr q) | exact fun q => h ((o_le hx hy).mpr q) | exact fun q => h ((o_lt hy hx).mpr q) | exact fun q => h ((o_le hy hx).mpr q) | exact fun q => q ((o_eq hx hy).mp h)
theorem x_if_le (M : MC p s m args meth c cc nL own Ts G) {x : Int} (hx : InR x) {off : Int} {tgt : Nat} (hdg : decode cc pc = .ok (.ifCond .le off, 3)) (ht : (pc : Int) + off = (tgt : Int)) (kt : x ≤ 0 → W p l e R s m args below meth c H locs cells slots Q (F0 m tgt ls rest)) (kf : ¬ (x ≤ 0) → W p l e R s m args below meth c H locs cells slots Q (F0 m (pc + 3) ls rest)) : W p l e R s m args below meth c H locs cells slots Q (F0 m pc ls (iV x :: rest)) := by
  refine lv_if_le M.1 M.2.1 hdg ht (fun h => kt ?_) (fun h => kf ?_)
  · rw [o_zero] at h
    have z0 : InR 0 := ⟨by decide, by decide⟩
    first | exact (o_eq hx z0).mp h | exact (o_lt hx z0).mp h | exact (o_le hx z0).mp h | exact (o_lt z0 hx).mp h | exact (o_le z0 hx).mp h | exact fun q => h ((o_eq hx z0).mpr q)
  · rw [o_zero] at h
    have z0 : InR 0 := ⟨by decide, by decide⟩
    first | exact fun q => h ((o_eq hx z0).mpr q) | exact fun q => h ((o_lt hx z0).mpr q) | exact fun q => h ((o_le hx z0).mpr q) | exact fun q => h ((o_lt z0 hx).mpr q) | exact fun q => h ((o_le z0 hx).mpr q) | exact fun q => q ((o_eq hx z0).mp h)
theorem x_icmp_le (M : MC p s m args meth c cc nL own Ts G) {x y : Int} (hx : InR x) (hy : InR y) {off : Int} {tgt : Nat} (hdg : decode cc pc = .ok (.if_icmp .le off, 3)) (ht : (pc : Int) + off = (tgt : Int)) (kt : x ≤ y → W p l e R s m args below meth c H locs cells slots Q (F0 m tgt ls rest)) (kf : ¬ (x ≤ y) → W p l e R s m args below meth c H locs cells slots Q (F0 m (pc + 3) ls rest)) : W p l e R s m args below meth c H locs cells slots Q (F0 m pc ls (iV y :: iV x :: rest)) := by
  refine lv_icmp_le M.1 M.2.1 hdg ht (fun h => kt ?_) (fun h => kf ?_)
  · first | exact (o_eq hx hy).mp h | exact (o_lt hx hy).mp h | exact (o_le hx hy).mp h | exact (o_lt hy hx).mp h | exact (o_le hy hx).mp h | exact fun q => h ((o_eq hx hy).mpr q)
  · first | exact fun q => h ((o_eq hx hy).mpr q) | exact fun q => h ((o_lt hx hy).mpr q) | exact fun q => h ((o_le hx hy).mpr q) | exact fun q => h ((o_lt hy hx).mpr q) | exact fun q => h ((o_le hy hx).mpr q) | exact fun q => q ((o_eq hx hy).mp h)
end RW
