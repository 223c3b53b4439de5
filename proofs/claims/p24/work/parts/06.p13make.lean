/-! PURE: room and floor, both sides -/
section ROOM
variable {B : Int} {k : Nat} {ex : Int} {w v va : Wd} {t a i : Nat}
theorem roomKept_l (hS : IvS w t) (hh : w 0 t 3 = 0 ∨ w 0 t 3 = 1) (hm : w 0 t 2 = 1) : ∀ (n : Nat) (acc p : Int), 0 ≤ acc ∧ acc ≤ 12 * p → 0 ≤ p ∧ p ≤ 64 → 64 - p < n → X5_roomKept_b15 t n acc (100 * (1 - w 0 t 3)) p w = some (acc + kp w t - sm (fun p => if w 5 t ((100 - 100 * (w 0 t 3).toNat) + p) = 300 then w 4 t ((100 - 100 * (w 0 t 3).toNat) + p) else 0) p.toNat, w) := by
  intro n
  induction n with
  | zero => intro acc p h0 h1 h2; omega
  | succ n ih =>
    intro acc p h0 h1 h2
    rw [X5_roomKept_b15_s, if_neg (by omega)]
    by_cases h3 : p < 64
    · have ei : (100 * (1 - w 0 t 3) + p).toNat = (100 - 100 * (w 0 t 3).toNat) + p.toNat := by omega
      have hs := hS ((100 - 100 * (w 0 t 3).toNat) + p.toNat) (by omega)
      have hsm : sm (fun p => if w 5 t ((100 - 100 * (w 0 t 3).toNat) + p) = 300 then w 4 t ((100 - 100 * (w 0 t 3).toNat) + p) else 0) (p + 1).toNat = sm (fun p => if w 5 t ((100 - 100 * (w 0 t 3).toNat) + p) = 300 then w 4 t ((100 - 100 * (w 0 t 3).toNat) + p) else 0) p.toNat + (if w 5 t ((100 - 100 * (w 0 t 3).toNat) + p.toNat) = 300 then w 4 t ((100 - 100 * (w 0 t 3).toNat) + p.toNat) else 0) := by
        rw [show (p + 1).toNat = p.toNat + 1 by omega]
        rfl
      rw [if_pos h3, gd_t ⟨by omega, by omega⟩]
      by_cases hp : 0 < w 4 t ((100 - 100 * (w 0 t 3).toNat) + p.toNat)
      · rw [noteAt_1 (by omega) (by rw [ei]; exact hp), bd_t, ei]
        by_cases h5 : w 5 t ((100 - 100 * (w 0 t 3).toNat) + p.toNat) = 300
        · rw [if_pos h5, sizeAt_e (by omega) (by rw [ei]; omega), bd_t, ei, gd_t ⟨by omega, by omega⟩, gd_t ⟨by omega, by omega⟩, ih _ (p + 1) (by omega) (by omega) (by omega), hsm, if_pos h5]
          congr 2
          omega
        · rw [if_neg h5, gd_t ⟨by omega, by omega⟩, ih _ (p + 1) (by omega) (by omega) (by omega), hsm, if_neg h5]
          congr 2
          omega
      · have hz : (if w 5 t ((100 - 100 * (w 0 t 3).toNat) + p.toNat) = 300 then w 4 t ((100 - 100 * (w 0 t 3).toNat) + p.toNat) else 0) = 0 := by split <;> omega
        rw [noteAt_0 (by rw [ei]; omega), bd_t, if_pos rfl, sizeAt_e (by omega) (by rw [ei]; omega), bd_t, ei, gd_t ⟨by omega, by omega⟩, gd_t ⟨by omega, by omega⟩, ih _ (p + 1) (by omega) (by omega) (by omega), hsm, hz]
        congr 2
        omega
    · rw [if_neg h3, show p = 64 by omega, show (64 : Int).toNat = 64 from rfl]
      unfold kp
      congr 2
      omega
theorem roomKept_e (hI : Iv B k ex w t) : X5_roomKept t w = some (if w 0 t 2 = 1 then kp w t else 0, w) := by
  have hA := hI.A
  unfold IvA at hA
  unfold X5_roomKept
  rw [gd_t ⟨by omega, by omega⟩, aoh_e (by omega), bd_t]
  by_cases hm : w 0 t 2 = 1
  · rw [roomKept_l hI.S hA.2.2.2.1 hm LF 0 0 (by omega) (by omega) (by rw [show LF = 10000 from rfl]; omega), if_pos hm]
    congr 2
    show 0 + kp w t - sm _ 0 = _
    unfold sm
    omega
  · rw [show LF = 9999 + 1 from rfl, X5_roomKept_b15_s, if_pos (by omega), if_neg hm]
theorem Iv.kp_nn (hI : Iv B k ex w t) : 0 ≤ kp w t ∧ kp w t ≤ 768 := by
  have hA := hI.A
  unfold IvA at hA
  unfold kp
  refine ⟨sm_nonneg 64 (fun p hp => ?_), ?_⟩
  · show 0 ≤ (if w 5 t ((100 - 100 * (w 0 t 3).toNat) + p) = 300 then w 4 t ((100 - 100 * (w 0 t 3).toNat) + p) else 0)
    have := hI.S ((100 - 100 * (w 0 t 3).toNat) + p) (by omega)
    split <;> omega
  · have := sm_le (f := fun p => if w 5 t ((100 - 100 * (w 0 t 3).toNat) + p) = 300 then w 4 t ((100 - 100 * (w 0 t 3).toNat) + p) else 0) (b := 12) 64 (fun p hp => by
      show (if w 5 t ((100 - 100 * (w 0 t 3).toNat) + p) = 300 then w 4 t ((100 - 100 * (w 0 t 3).toNat) + p) else 0) ≤ 12
      have := hI.S ((100 - 100 * (w 0 t 3).toNat) + p) (by omega)
      split <;> omega)
    omega
/-- the size of a cell of the model -/
theorem size8 (hR : Re w v t) (hI : Iv B k ex w t) {d : Nat} (hd : (d < 64 ∨ (100 ≤ d ∧ d < 164) ∨ (200 ≤ d ∧ d < 260))) : X8_sizeAt (64 * (d / 100) + d % 100) v = some (w 4 t d, v) ∧ X8_isCopy (64 * (d / 100) + d % 100) v = some (if 0 < w 4 t d then 1 else 0, v) := by
  have hA := hI.A
  unfold IvA at hA
  have hC := hR.2.2.2.1 d hd
  have hS := hI.S d (by omega)
  have ec : (((64 * (d / 100) + d % 100) : Nat) : Int).toNat = (64 * (d / 100) + d % 100) := rfl
  have e1 : (64 * ((d : Int) / 100) + (d : Int) % 100) = (((64 * (d / 100) + d % 100) : Nat) : Int) := by omega
  rw [e1]
  by_cases hp : 0 < w 4 t d
  · rw [if_pos hp] at hC
    have hD := (hR.2.2.2.2 d hd hp).1
    have hS2 := (hS.2.2 hp).2
    refine ⟨?_, ?_⟩
    · rw [sizeAt8_e (by omega) (by rw [ec, hC]; omega), ec, hC, if_pos (by omega), show 16 + (w 3 t d + 1).toNat = 17 + (w 3 t d).toNat by omega, hD]
    · rw [isCopy8_e (by omega), ec, hC, if_pos (by omega), if_pos hp]
  · rw [if_neg hp] at hC
    refine ⟨?_, ?_⟩
    · rw [sizeAt8_e (by omega) (by rw [ec, hC]; omega), ec, hC, if_neg (by omega), show w 4 t d = 0 by omega]
    · rw [isCopy8_e (by omega), ec, hC, if_neg (by omega), if_neg hp]
theorem note8 (hR : Re w v t) (hI : Iv B k ex w t) {d : Nat} (hd : (d < 64 ∨ (100 ≤ d ∧ d < 164) ∨ (200 ≤ d ∧ d < 260))) (hp : 0 < w 4 t d) : X8_ofCopy (64 * (d / 100) + d % 100) 3 v = some (nn (w 5 t d), v) := by
  have hD := hR.2.2.2.2 d hd hp
  have e1 : (64 * ((d : Int) / 100) + (d : Int) % 100) = (((64 * (d / 100) + d % 100) : Nat) : Int) := by omega
  rw [e1, ofCopy8_e (by omega) (by omega)]
  show some (v 22 0 (185 + 5 * (64 * (d / 100) + d % 100) + 3), v) = _
  rw [hD.2.2.2.1]
theorem Iv.note_c (hI : Iv B k ex w t) {d : Nat} (hd : d < 260) (hp : 0 < w 4 t d) : nn (w 5 t d) = -9 ↔ w 5 t d = 300 := by
  rcases hI.T d hd hp with q | q
  · rw [q]; decide
  · exact nn_eq q.2.2.1.1
theorem kept_l (hR : Re w v t) (hI : Iv B k ex w t) (hm : w 0 t 2 = 1) : ∀ (n : Nat) (acc p : Int), 0 ≤ acc ∧ acc ≤ 12 * p → 0 ≤ p ∧ p ≤ 64 → 64 - p < n → X8_kept_b10 n acc (64 * (1 - w 0 t 3) + p) v = some (acc + kp w t - sm (fun p => if w 5 t ((100 - 100 * (w 0 t 3).toNat) + p) = 300 then w 4 t ((100 - 100 * (w 0 t 3).toNat) + p) else 0) p.toNat, v) := by
  have hA := hI.A
  unfold IvA at hA
  have a2 := hR.1.2.2.1
  have a3 := hR.1.2.2.2.1
  intro n
  induction n with
  | zero => intro acc p h0 h1 h2; omega
  | succ n ih =>
    intro acc p h0 h1 h2
    rw [X8_kept_b10_s, old8_e (by omega), bd_t, a3, gd_t ⟨by omega, by omega⟩, gd_t ⟨by omega, by omega⟩]
    by_cases h3 : p < 64
    · obtain ⟨d, hd⟩ : ∃ d : Nat, d = (100 - 100 * (w 0 t 3).toNat) + p.toNat := ⟨_, rfl⟩
      have hia : (d < 64 ∨ (100 ≤ d ∧ d < 164) ∨ (200 ≤ d ∧ d < 260)) := by omega
      have hs := hI.S d (by omega)
      have ec : 64 * (1 - w 0 t 3) + p = 64 * ((d : Int) / 100) + (d : Int) % 100 := by omega
      have hsm : sm (fun p => if w 5 t ((100 - 100 * (w 0 t 3).toNat) + p) = 300 then w 4 t ((100 - 100 * (w 0 t 3).toNat) + p) else 0) (p + 1).toNat = sm (fun p => if w 5 t ((100 - 100 * (w 0 t 3).toNat) + p) = 300 then w 4 t ((100 - 100 * (w 0 t 3).toNat) + p) else 0) p.toNat + (if w 5 t d = 300 then w 4 t d else 0) := by
        rw [show (p + 1).toNat = p.toNat + 1 by omega, hd]
        rfl
      obtain ⟨z1, z2⟩ := size8 hR hI hia
      rw [if_pos (by omega), isMoving8_e, a2, if_pos hm, bd_t, if_neg (by decide), ec, z2]
      have en : 64 * ((d : Int) / 100) + (d : Int) % 100 + 1 = 64 * (1 - w 0 t 3) + (p + 1) := by omega
      by_cases hp : 0 < w 4 t d
      · have hn := hI.note_c (by omega) hp
        rw [if_pos hp, bd_t, if_neg (by decide), note8 hR hI hia hp, bd_t]
        by_cases h5 : w 5 t d = 300
        · rw [if_pos (hn.mpr h5), z1, bd_t, gd_t ⟨by omega, by omega⟩, gd_t ⟨by omega, by omega⟩, en, ih _ (p + 1) (by omega) (by omega) (by omega), hsm, if_pos h5]
          congr 2
          omega
        · rw [if_neg (fun q => h5 (hn.mp q)), gd_t ⟨by omega, by omega⟩, gd_t ⟨by omega, by omega⟩, en, ih _ (p + 1) (by omega) (by omega) (by omega), hsm, if_neg h5]
          congr 2
          omega
      · have hz : (if w 5 t d = 300 then w 4 t d else 0) = 0 := by split <;> omega
        rw [if_neg hp, bd_t, if_pos rfl, gd_t ⟨by omega, by omega⟩, gd_t ⟨by omega, by omega⟩, en, ih _ (p + 1) (by omega) (by omega) (by omega), hsm, hz]
        congr 2
        omega
    · rw [if_neg (by omega), show p = 64 by omega, show (64 : Int).toNat = 64 from rfl]
      unfold kp
      congr 2
      omega
theorem kept8_e (hR : Re w v t) (hI : Iv B k ex w t) : X8_kept v = some (if w 0 t 2 = 1 then kp w t else 0, v) := by
  have hA := hI.A
  unfold IvA at hA
  have a2 := hR.1.2.2.1
  have a3 := hR.1.2.2.2.1
  unfold X8_kept
  rw [old8_e (by omega), bd_t, a3, gd_t ⟨by omega, by omega⟩]
  by_cases hm : w 0 t 2 = 1
  · have := kept_l hR hI hm LF 0 0 (by omega) (by omega) (by rw [show LF = 10000 from rfl]; omega)
    rw [Int.add_zero] at this
    rw [this, if_pos hm]
    congr 2
    show 0 + kp w t - sm _ 0 = _
    unfold sm
    omega
  · rw [show LF = 9999 + 1 from rfl, X8_kept_b10_s, old8_e (by omega), bd_t, a3, gd_t ⟨by omega, by omega⟩, gd_t ⟨by omega, by omega⟩, if_pos (by omega), isMoving8_e, a2, if_neg hm, bd_t, if_pos rfl, if_neg hm]
/-- the floor: inside of a copy nothing begins -/
theorem floor_skip (hS : IvS w t) {s : Int} (hs : 1 ≤ s ∧ s ≤ 12) : ∀ (d n : Nat) (g p : Int), 0 ≤ p ∧ p + d = g ∧ g ≤ 60 → (∀ q : Nat, p ≤ q → (q : Int) < g → w 4 t (200 + q) = 0) → X0_floorAddressFor_b4 t (n + d) s g p w = X0_floorAddressFor_b4 t n s g g w := by
  intro d
  induction d with
  | zero =>
    intro n g p h1 h2
    rw [show p = g by omega]
    rfl
  | succ d ih =>
    intro n g p h1 h2
    rw [show n + (d + 1) = (n + d) + 1 by omega, X0_floorAddressFor_b4_s]
    have ei : (200 + p).toNat = 200 + p.toNat := by omega
    have h0 := h2 p.toNat (by omega) (by omega)
    rw [if_pos (by omega), gd_t ⟨by omega, by omega⟩, if_pos (by omega), gd_t ⟨by omega, by omega⟩, sizeAt_e (by omega) (by rw [ei, h0]; decide), bd_t, ei, h0, if_neg (by decide), gd_t ⟨by omega, by omega⟩]
    exact ih n g (p + 1) (by omega) (fun q q1 q2 => h2 q (by omega) q2)
theorem floor_l (hR : Re w v t) (hI : Iv B k ex w t) {s : Int} (hs : 1 ≤ s ∧ s ≤ 12) : ∀ (m n n' : Nat) (row c : Int), 0 ≤ row ∧ row ≤ s → row ≤ c ∧ c ≤ 60 → 60 - c < m → 60 - c < n → 60 - c < n' → (∀ q : Nat, c - row ≤ q → (q : Int) < c → w 4 t (200 + q) = 0) → (∀ q : Nat, (q : Int) < c - row → 0 < w 4 t (200 + q) → (q : Int) + w 4 t (200 + q) ≤ c - row) → ∃ r : Int, X0_floorAddressFor_b4 t n s (c - row) c w = some (r, w) ∧ X8_floorPlace_b4 n' s row c v = some (if r = 300 then -9 else r - 200, v) ∧ (r = 300 ∨ (200 ≤ r ∧ r + s ≤ 260 ∧ (∀ q : Nat, r - 200 ≤ q → (q : Int) < r - 200 + s → w 4 t (200 + q) = 0) ∧ ∀ q : Nat, (q : Int) < r - 200 → 0 < w 4 t (200 + q) → (q : Int) + w 4 t (200 + q) ≤ r - 200)) := by
  intro m
  induction m with
  | zero => intro n n' row c h1 h2 h3; omega
  | succ m ih =>
    intro n n' row c h1 h2 h3 h4 h5 hz hp
    match n, n', h4, h5 with
    | 0, _, h4, _ => omega
    | _ + 1, 0, _, h5 => omega
    | n + 1, n' + 1, h4, h5 =>
      by_cases hgo : c < 60 ∧ row < s
      · obtain ⟨d, hd⟩ : ∃ d : Nat, d = 200 + c.toNat := ⟨_, rfl⟩
        have hia : (d < 64 ∨ (100 ≤ d ∧ d < 164) ∨ (200 ≤ d ∧ d < 260)) := by omega
        have hsd := hI.S d (by omega)
        have ec : 128 + c = 64 * ((d : Int) / 100) + (d : Int) % 100 := by omega
        obtain ⟨z1, z2⟩ := size8 hR hI hia
        have ei : (200 + c).toNat = d := by omega
        by_cases hpd : 0 < w 4 t d
        · have hF := hI.F c.toNat (by omega)
          rw [← hd] at hF
          obtain ⟨f1, f2⟩ := hF hpd
          have hsk := floor_skip hI.S hs (w 4 t d - 1).toNat (n + 1 - (w 4 t d).toNat) (c + w 4 t d) (c + 1) (by omega) (fun q q1 q2 => f2 q (by omega) (by omega))
          obtain ⟨r, g1, g2, g3⟩ := ih (n + 1 - (w 4 t d).toNat) n' 0 (c + w 4 t d) (by omega) (by omega) (by omega) (by omega) (by omega) (fun q q1 q2 => by omega) (fun q q1 q2 => by
            by_cases e1 : (q : Int) < c - row
            · have := hp q e1 q2
              omega
            · by_cases e2 : (q : Int) < c
              · have := hz q (by omega) e2
                omega
              · by_cases e3 : q = c.toNat
                · subst e3
                  rw [← hd]
                  omega
                · have := f2 q (by omega) (by omega)
                  omega)
          refine ⟨r, ?_, ?_, g3⟩
          · rw [X0_floorAddressFor_b4_s, if_pos hgo.1, gd_t ⟨by omega, by omega⟩, if_pos (by omega), gd_t ⟨by omega, by omega⟩, sizeAt_e (by omega) (by rw [ei]; omega), bd_t, ei, if_pos hpd, gd_t ⟨by omega, by omega⟩, gd_t ⟨by omega, by omega⟩]
            rw [show n = n + 1 - (w 4 t d).toNat + (w 4 t d - 1).toNat by omega, hsk]
            rw [show c + w 4 t d - 0 = c + w 4 t d by omega] at g1
            exact g1
          · rw [X8_floorPlace_b4_s, if_pos hgo.1, if_pos hgo.2, gd_t ⟨by omega, by omega⟩, ec, z1, bd_t, if_pos hpd]
            unfold X8_floorPlace_b38
            rw [if_pos hpd, gd_t ⟨by omega, by omega⟩]
            exact g2
        · have hz0 : w 4 t d = 0 := by omega
          obtain ⟨r, g1, g2, g3⟩ := ih n n' (row + 1) (c + 1) (by omega) (by omega) (by omega) (by omega) (by omega) (fun q q1 q2 => by
            by_cases e : q = c.toNat
            · subst e
              rw [← hd]
              exact hz0
            · exact hz q (by omega) (by omega)) (fun q q1 q2 => by
            have := hp q (by omega) q2
            omega)
          refine ⟨r, ?_, ?_, g3⟩
          · rw [X0_floorAddressFor_b4_s, if_pos hgo.1, gd_t ⟨by omega, by omega⟩, if_pos (by omega), gd_t ⟨by omega, by omega⟩, sizeAt_e (by omega) (by rw [ei]; omega), bd_t, ei, if_neg hpd, gd_t ⟨by omega, by omega⟩]
            rw [show c + 1 - (row + 1) = c - row by omega] at g1
            exact g1
          · rw [X8_floorPlace_b4_s, if_pos hgo.1, if_pos hgo.2, gd_t ⟨by omega, by omega⟩, ec, z1, bd_t, if_neg hpd, gd_t ⟨by omega, by omega⟩]
            unfold X8_floorPlace_b38
            rw [if_neg hpd, gd_t ⟨by omega, by omega⟩]
            exact g2
      · by_cases hr : row < s
        · have hc : c = 60 := by omega
          refine ⟨300, ?_, ?_, Or.inl rfl⟩
          · rw [X0_floorAddressFor_b4_s, if_neg (by omega), gd_t ⟨by omega, by omega⟩, if_pos (by omega)]
          · rw [X8_floorPlace_b4_s, if_neg (by omega), if_pos hr, if_pos rfl]
        · have hrs : row = s := by omega
          refine ⟨200 + (c - row), ?_, ?_, Or.inr ⟨by omega, by omega, fun q q1 q2 => hz q (by omega) (by omega), fun q q1 q2 => by have := hp q (by omega) q2; omega⟩⟩
          · rw [X0_floorAddressFor_b4_s]
            have key : (gd (InR (c - row + s)) (if 60 < c - row + s then some (300, w) else gd (InR (200 + (c - row))) (some (200 + (c - row), w)))) = some (200 + (c - row), w) := by
              rw [gd_t ⟨by omega, by omega⟩, if_neg (by omega), gd_t ⟨by omega, by omega⟩]
            by_cases hc : c < 60
            · rw [if_pos hc, gd_t ⟨by omega, by omega⟩, if_neg (by omega)]
              exact key
            · rw [if_neg hc]
              exact key
          · rw [X8_floorPlace_b4_s]
            have key : (if row < s then some ((-9 : Int), v) else gd (InR (c - s)) (some (c - s, v))) = some (if 200 + (c - row) = 300 then -9 else 200 + (c - row) - 200, v) := by
              rw [if_neg hr, gd_t ⟨by omega, by omega⟩, if_neg (by omega)]
              congr 2
              omega
            by_cases hc : c < 60
            · rw [if_pos hc, if_neg hr]
              exact key
            · rw [if_neg hc]
              exact key
theorem floor_b (hR : Re w v t) (hI : Iv B k ex w t) {s : Int} (hs : 1 ≤ s ∧ s ≤ 12) : ∃ r : Int, X0_floorAddressFor t s w = some (r, w) ∧ X8_floorPlace s v = some (if r = 300 then -9 else r - 200, v) ∧ (r = 300 ∨ (200 ≤ r ∧ r + s ≤ 260 ∧ (∀ q : Nat, r - 200 ≤ q → (q : Int) < r - 200 + s → w 4 t (200 + q) = 0) ∧ ∀ q : Nat, (q : Int) < r - 200 → 0 < w 4 t (200 + q) → (q : Int) + w 4 t (200 + q) ≤ r - 200)) := by
  have := floor_l hR hI hs 61 LF LF 0 0 (by omega) (by omega) (by omega) (by rw [show LF = 10000 from rfl]; omega) (by rw [show LF = 10000 from rfl]; omega) (fun q q1 q2 => by omega) (fun q q1 q2 => by omega)
  exact this
end ROOM
