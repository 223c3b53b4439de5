/-! PURE: bits of whole numbers of 64 bits -/
theorem sh_c : ∀ k : Nat, k < 64 → (((Int32.ofInt k).toInt64 &&& 63).toBitVec.smod 64).toNat = k := by decide +kernel
theorem l2i_e {x : Int} (h : InR x) : l2iI x = x := by
  unfold l2iI
  rw [Int64.toInt32_ofInt, o_toInt h]
theorem cmp_e {x y : Int} (hx : InL x) (hy : InL y) : cmpL x y = 0 ↔ x = y := by
  have he : Int64.ofInt x = Int64.ofInt y ↔ x = y := by rw [← Int64.toInt_inj, ol_toInt hx, ol_toInt hy]
  unfold cmpL lg_cmp
  by_cases h1 : Int64.ofInt x > Int64.ofInt y
  · rw [if_pos h1]
    constructor
    · intro q
      exact absurd q (by decide)
    · intro q
      rw [he.mpr q] at h1
      exact absurd h1 (by rw [gt_iff_lt, Int64.lt_iff_toInt_lt]; omega)
  · rw [if_neg h1]
    by_cases h2 : Int64.ofInt x = Int64.ofInt y
    · rw [if_pos h2]
      exact ⟨fun _ => he.mp h2, fun _ => rfl⟩
    · rw [if_neg h2]
      constructor
      · intro q
        exact absurd q (by decide)
      · intro q
        exact absurd (he.mpr q) h2
theorem shlL_e {x : Int} {k : Nat} (hk : k < 64) (h : InL (x * 2 ^ k)) : shlL x k = x * 2 ^ k := by
  unfold shlL
  have e : Int64.ofInt x <<< ((Int32.ofInt k).toInt64 &&& 63) = Int64.ofInt (x * 2 ^ k) := by
    apply Int64.toBitVec_inj.mp
    show (Int64.ofInt x).toBitVec <<< (((Int32.ofInt k).toInt64 &&& 63).toBitVec.smod 64).toNat = (Int64.ofInt (x * 2 ^ k)).toBitVec
    rw [sh_c k hk, Int64.toBitVec_ofInt, Int64.toBitVec_ofInt, BitVec.ofInt_mul, BitVec.shiftLeft_eq_mul_twoPow]
    congr 1
    apply BitVec.eq_of_toNat_eq
    rw [BitVec.toNat_twoPow, BitVec.toNat_ofInt, Nat.mod_eq_of_lt (Nat.pow_lt_pow_right (by decide) hk)]
    have h2 : ((2 : Int) ^ k) = ((2 ^ k : Nat) : Int) := by rw [Int.natCast_pow]; rfl
    have h3 : 2 ^ k < 2 ^ 64 := Nat.pow_lt_pow_right (by decide) hk
    rw [h2]
    have h5 : ∀ m : Nat, m < 2 ^ 64 → m = ((m : Int) % ((2 ^ 64 : Nat) : Int)).toNat := by
      intro m h
      omega
    exact h5 _ h3
  rw [e, ol_toInt h]
theorem shrL_e {x : Int} {k : Nat} (hk : k < 64) (h : InL x) : shrL x k = x / 2 ^ k := by
  unfold shrL
  show ((Int64.ofInt x).toBitVec.sshiftRight (((Int32.ofInt k).toInt64 &&& 63).toBitVec.smod 64).toNat).toInt = _
  rw [sh_c k hk, BitVec.toInt_sshiftRight]
  show (Int64.ofInt x).toInt >>> k = _
  rw [ol_toInt h, Int.shiftRight_eq_div_pow]
  rw [Int.natCast_pow]
  rfl
theorem tb_n {n : Nat} (h : n < 2 ^ 63) : (Int64.ofInt (n : Int)).toBitVec.toNat = n := by
  rw [Int64.toBitVec_ofInt, BitVec.toNat_ofInt]
  omega
theorem of_tb {x : Int64} {n : Nat} (h : n < 2 ^ 63) (e : x.toBitVec.toNat = n) : x.toInt = n := by
  have : x = Int64.ofInt (n : Int) := Int64.toBitVec_inj.mp (BitVec.eq_of_toNat_eq (by rw [e, tb_n h]))
  rw [this, ol_toInt ⟨by omega, by omega⟩]
theorem andL_n {n m : Nat} (hn : n < 2 ^ 63) (hm : m < 2 ^ 63) : andL n m = ((n &&& m : Nat) : Int) := by
  unfold andL
  refine of_tb (Nat.lt_of_le_of_lt Nat.and_le_left hn) ?_
  rw [Int64.toBitVec_and, BitVec.toNat_and, tb_n hn, tb_n hm]
theorem orL_n {n m : Nat} (hn : n < 2 ^ 63) (hm : m < 2 ^ 63) : orL n m = ((n ||| m : Nat) : Int) := by
  unfold orL
  refine of_tb (Nat.or_lt_two_pow hn hm) ?_
  rw [Int64.toBitVec_or, BitVec.toNat_or, tb_n hn, tb_n hm]
theorem andL_m {n : Nat} (hn : n < 2 ^ 63) {j : Nat} (hj : j < 63) {m : Int} (hm : m = 2 ^ j - 1) : andL n m = ((n % 2 ^ j : Nat) : Int) := by
  have h2 : ((2 : Int) ^ j) = ((2 ^ j : Nat) : Int) := by rw [Int.natCast_pow]; rfl
  have h3 : 2 ^ j < 2 ^ 63 := Nat.pow_lt_pow_right (by decide) hj
  have h4 : 0 < 2 ^ j := Nat.two_pow_pos j
  have e : m = ((2 ^ j - 1 : Nat) : Int) := by rw [hm, h2]; omega
  rw [e, andL_n hn (by omega), Nat.and_two_pow_sub_one_eq_mod]
theorem orL_add {a b j : Nat} (ha : a < 2 ^ j) (h : a + 2 ^ j * b < 2 ^ 63) : orL a ((2 ^ j * b : Nat) : Int) = ((a + 2 ^ j * b : Nat) : Int) := by
  have h1 : a < 2 ^ 63 := Nat.lt_of_le_of_lt (Nat.le_add_right _ _) h
  have h2 : 2 ^ j * b < 2 ^ 63 := Nat.lt_of_le_of_lt (Nat.le_add_left _ _) h
  rw [orL_n h1 h2, Nat.or_comm, ← Nat.two_pow_add_eq_or_of_lt ha, Nat.add_comm]
/-- a copy as the law packs it -/
def pk (th n0 n1 nt mk : Int) : Int := th + 1 + (n0 + 9) * 64 + (n1 + 9) * 32768 + (nt + 9) * 16777216 + mk * 8589934592
def okP (th n0 n1 nt mk : Int) : Prop := (0 ≤ th ∧ th ≤ 60) ∧ (-9 ≤ n0 ∧ n0 ≤ 500) ∧ (-9 ≤ n1 ∧ n1 ≤ 500) ∧ (-9 ≤ nt ∧ nt ≤ 500) ∧ (0 ≤ mk ∧ mk ≤ 1)
section PK
variable {th n0 n1 nt mk : Int} {w : Wd}
theorem pk_b (h : okP th n0 n1 nt mk) : 1 ≤ pk th n0 n1 nt mk ∧ pk th n0 n1 nt mk < 17179869184 := by
  unfold okP at h
  unfold pk
  omega
theorem pk_l (h : okP th n0 n1 nt mk) : InL (pk th n0 n1 nt mk) := by
  have := pk_b h
  exact ⟨by omega, by omega⟩
theorem pack_e (h : okP th n0 n1 nt mk) : L_pack th n0 n1 nt mk w = some (pk th n0 n1 nt mk, w) := by
  unfold okP at h
  unfold L_pack
  have s1 : shlL (n0 + 9) 6 = (n0 + 9) * 2 ^ 6 := shlL_e (k := 6) (by decide) ⟨by omega, by omega⟩
  have s2 : shlL (n1 + 9) 15 = (n1 + 9) * 2 ^ 15 := shlL_e (k := 15) (by decide) ⟨by omega, by omega⟩
  have s3 : shlL (nt + 9) 24 = (nt + 9) * 2 ^ 24 := shlL_e (k := 24) (by decide) ⟨by omega, by omega⟩
  have s4 : shlL mk 33 = mk * 2 ^ 33 := shlL_e (k := 33) (by decide) ⟨by omega, by omega⟩
  rw [gd_t ⟨by omega, by omega⟩, gd_t ⟨by omega, by omega⟩, gd_t ⟨by omega, by omega⟩, gd_t ⟨by omega, by omega⟩, s1, s2, s3, s4]
  obtain ⟨a, ha⟩ : ∃ a : Nat, (a : Int) = th + 1 := ⟨(th + 1).toNat, by omega⟩
  obtain ⟨b, hb⟩ : ∃ b : Nat, (b : Int) = n0 + 9 := ⟨(n0 + 9).toNat, by omega⟩
  obtain ⟨c, hc⟩ : ∃ c : Nat, (c : Int) = n1 + 9 := ⟨(n1 + 9).toNat, by omega⟩
  obtain ⟨d, hd⟩ : ∃ d : Nat, (d : Int) = nt + 9 := ⟨(nt + 9).toNat, by omega⟩
  obtain ⟨f, hf⟩ : ∃ f : Nat, (f : Int) = mk := ⟨mk.toNat, by omega⟩
  have e1 : orL (th + 1) ((n0 + 9) * 2 ^ 6) = ((a + 2 ^ 6 * b : Nat) : Int) := by
    rw [← ha, show (n0 + 9) * 2 ^ 6 = ((2 ^ 6 * b : Nat) : Int) by omega]
    exact orL_add (by omega) (by omega)
  have e2 : orL ((a + 2 ^ 6 * b : Nat) : Int) ((n1 + 9) * 2 ^ 15) = ((a + 2 ^ 6 * b + 2 ^ 15 * c : Nat) : Int) := by
    rw [show (n1 + 9) * 2 ^ 15 = ((2 ^ 15 * c : Nat) : Int) by omega]
    exact orL_add (by omega) (by omega)
  have e3 : orL ((a + 2 ^ 6 * b + 2 ^ 15 * c : Nat) : Int) ((nt + 9) * 2 ^ 24) = ((a + 2 ^ 6 * b + 2 ^ 15 * c + 2 ^ 24 * d : Nat) : Int) := by
    rw [show (nt + 9) * 2 ^ 24 = ((2 ^ 24 * d : Nat) : Int) by omega]
    exact orL_add (by omega) (by omega)
  have e4 : orL ((a + 2 ^ 6 * b + 2 ^ 15 * c + 2 ^ 24 * d : Nat) : Int) (mk * 2 ^ 33) = ((a + 2 ^ 6 * b + 2 ^ 15 * c + 2 ^ 24 * d + 2 ^ 33 * f : Nat) : Int) := by
    rw [show mk * 2 ^ 33 = ((2 ^ 33 * f : Nat) : Int) by omega]
    exact orL_add (by omega) (by omega)
  rw [e1, e2, e3, e4]
  exact some_eq (by unfold pk; omega)
theorem thing_n {v : Int} (h : 0 ≤ v ∧ v < 17179869184) : L_thing v w = some (v % 64 - 1, w) := by
  unfold L_thing
  obtain ⟨n, hn⟩ : ∃ n : Nat, (n : Int) = v := ⟨v.toNat, by omega⟩
  have e : andL v 63 = v % 64 := by
    rw [← hn, andL_m (j := 6) (by omega) (by decide) (by decide)]
    omega
  rw [e, l2i_e ⟨by omega, by omega⟩, gd_t ⟨by omega, by omega⟩]
theorem name_n {v : Int} (h : 0 ≤ v ∧ v < 17179869184) {k : Nat} (hk : k < 3) : L_name v k w = some (v / 2 ^ (6 + 9 * k) % 512 - 9, w) := by
  unfold L_name
  have hp : 0 < (2 : Int) ^ (6 + 9 * k) := Int.pow_pos (by decide)
  have h0 : 0 ≤ v / 2 ^ (6 + 9 * k) := Int.ediv_nonneg h.1 (by omega)
  have h1 : v / 2 ^ (6 + 9 * k) ≤ v := Int.ediv_le_self _ h.1
  have ei : 6 + 9 * (k : Int) = ((6 + 9 * k : Nat) : Int) := by omega
  obtain ⟨n, hn⟩ : ∃ n : Nat, (n : Int) = v / 2 ^ (6 + 9 * k) := ⟨(v / 2 ^ (6 + 9 * k)).toNat, by omega⟩
  rw [gd_t ⟨by omega, by omega⟩, gd_t ⟨by omega, by omega⟩, ei, shrL_e (by omega) ⟨by omega, by omega⟩]
  have e : andL (v / 2 ^ (6 + 9 * k)) 511 = v / 2 ^ (6 + 9 * k) % 512 := by
    rw [← hn, andL_m (j := 9) (by omega) (by decide) (by decide)]
    omega
  rw [e, l2i_e ⟨by omega, by omega⟩, gd_t ⟨by omega, by omega⟩]
theorem mark_n {v : Int} (h : 0 ≤ v ∧ v < 17179869184) : L_mark v w = some (v / 8589934592 % 2, w) := by
  unfold L_mark
  have e0 : shrL v 33 = v / 2 ^ 33 := shrL_e (k := 33) (by decide) ⟨by omega, by omega⟩
  obtain ⟨n, hn⟩ : ∃ n : Nat, (n : Int) = v / 8589934592 := ⟨(v / 8589934592).toNat, by omega⟩
  rw [e0, show v / 2 ^ 33 = v / 8589934592 from rfl]
  have e : andL (v / 8589934592) 1 = v / 8589934592 % 2 := by
    rw [← hn, andL_m (j := 1) (by omega) (by decide) (by decide)]
    omega
  rw [e, l2i_e ⟨by omega, by omega⟩]
theorem thing_p (h : okP th n0 n1 nt mk) : L_thing (pk th n0 n1 nt mk) w = some (th, w) := by
  have := pk_b h
  unfold okP at h
  rw [thing_n ⟨by omega, by omega⟩]
  exact some_eq (by unfold pk; omega)
theorem thing_0 : L_thing 0 w = some (-1, w) := by
  rw [thing_n ⟨by decide, by decide⟩]
  rfl
theorem name_p (h : okP th n0 n1 nt mk) : L_name (pk th n0 n1 nt mk) 0 w = some (n0, w) ∧ L_name (pk th n0 n1 nt mk) 1 w = some (n1, w) ∧ L_name (pk th n0 n1 nt mk) 2 w = some (nt, w) := by
  have := pk_b h
  have e0 := name_n (w := w) (v := pk th n0 n1 nt mk) ⟨by omega, by omega⟩ (k := 0) (by decide)
  have e1 := name_n (w := w) (v := pk th n0 n1 nt mk) ⟨by omega, by omega⟩ (k := 1) (by decide)
  have e2 := name_n (w := w) (v := pk th n0 n1 nt mk) ⟨by omega, by omega⟩ (k := 2) (by decide)
  rw [show (2 : Int) ^ (6 + 9 * 0) = 64 from rfl] at e0
  rw [show (2 : Int) ^ (6 + 9 * 1) = 32768 from rfl] at e1
  rw [show (2 : Int) ^ (6 + 9 * 2) = 16777216 from rfl] at e2
  unfold okP at h
  exact ⟨e0.trans (some_eq (by unfold pk; omega)), e1.trans (some_eq (by unfold pk; omega)), e2.trans (some_eq (by unfold pk; omega))⟩
theorem name_0 {k : Nat} (hk : k < 3) : L_name 0 k w = some (-9, w) := by
  rw [name_n ⟨by decide, by decide⟩ hk, Int.zero_ediv]
  rfl
theorem mark_p (h : okP th n0 n1 nt mk) : L_mark (pk th n0 n1 nt mk) w = some (mk, w) := by
  have := pk_b h
  unfold okP at h
  rw [mark_n ⟨by omega, by omega⟩]
  exact some_eq (by unfold pk; omega)
theorem mark_0L : L_mark 0 w = some (0, w) := by
  rw [mark_n ⟨by decide, by decide⟩]
  rfl
theorem set_mark (h : okP th n0 n1 nt 0) : orL (pk th n0 n1 nt 0) 8589934592 = pk th n0 n1 nt 1 := by
  unfold okP at h
  obtain ⟨n, hn⟩ : ∃ n : Nat, (n : Int) = pk th n0 n1 nt 0 := ⟨(pk th n0 n1 nt 0).toNat, by unfold pk; omega⟩
  have hb : n < 2 ^ 33 := by unfold pk at hn; omega
  rw [← hn, show (8589934592 : Int) = ((2 ^ 33 * 1 : Nat) : Int) from rfl, orL_add hb (by omega)]
  unfold pk at hn ⊢
  omega
theorem clear_mark (h : okP th n0 n1 nt 1) : andL (pk th n0 n1 nt 1) (-8589934593) = pk th n0 n1 nt 0 := by
  unfold okP at h
  obtain ⟨n, hn⟩ : ∃ n : Nat, (n : Int) = pk th n0 n1 nt 1 := ⟨(pk th n0 n1 nt 1).toNat, by unfold pk; omega⟩
  have hb : 2 ^ 33 ≤ n ∧ n < 2 ^ 34 := by unfold pk at hn; omega
  have hm : (Int64.ofInt (-8589934593)).toBitVec.toNat = 2 ^ 64 - 1 - 2 ^ 33 := by decide
  have e : andL (n : Int) (-8589934593) = ((n - 2 ^ 33 : Nat) : Int) := by
    unfold andL
    refine of_tb (by omega) ?_
    rw [Int64.toBitVec_and, BitVec.toNat_and, tb_n (by omega), hm]
    have h1 : n &&& (2 ^ 64 - 1 - 2 ^ 33) = (n &&& (2 ^ 64 - 1 - 2 ^ 33)) % 2 ^ 34 := (Nat.mod_eq_of_lt (Nat.lt_of_le_of_lt Nat.and_le_left hb.2)).symm
    rw [h1, Nat.and_mod_two_pow, Nat.mod_eq_of_lt hb.2, show (2 ^ 64 - 1 - 2 ^ 33) % 2 ^ 34 = 2 ^ 33 - 1 from rfl, Nat.and_two_pow_sub_one_eq_mod]
    omega
  rw [← hn, e]
  unfold pk at hn ⊢
  omega
/-- a name, or a note, of a packed copy made another -/
theorem ren_0 (h : okP th n0 n1 nt mk) {z : Int} (hz : -9 ≤ z ∧ z ≤ 500) : pk th n0 n1 nt mk + shlL (z - n0) 6 = pk th z n1 nt mk ∧ pk th n0 n1 nt mk + shlL (z - n1) 15 = pk th n0 z nt mk ∧ pk th n0 n1 nt mk + shlL (z - nt) 24 = pk th n0 n1 z mk := by
  unfold okP at h
  have s1 : shlL (z - n0) 6 = (z - n0) * 2 ^ 6 := shlL_e (k := 6) (by decide) ⟨by omega, by omega⟩
  have s2 : shlL (z - n1) 15 = (z - n1) * 2 ^ 15 := shlL_e (k := 15) (by decide) ⟨by omega, by omega⟩
  have s3 : shlL (z - nt) 24 = (z - nt) * 2 ^ 24 := shlL_e (k := 24) (by decide) ⟨by omega, by omega⟩
  rw [s1, s2, s3]
  unfold pk
  refine ⟨?_, ?_, ?_⟩ <;> omega
end PK
