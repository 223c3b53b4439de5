/-! PURE: twins are mended, the class and the law -/
def ad (c : Nat) : Nat := 100 * (c / 64) + c % 64
section MDL
variable {B : Int} {k : Nat} {ex : Int} {g gb u : Wd} {a i h o j d c : Nat} {x : Int}
theorem ad_ia (hc : c < 188) : (((ad c)) < 64 ∨ (100 ≤ ((ad c)) ∧ ((ad c)) < 164) ∨ (200 ≤ ((ad c)) ∧ ((ad c)) < 260)) ∧ (64 * (((ad c)) / 100) + ((ad c)) % 100) = c := by
  unfold ad
  omega
theorem ad_cn (hd : (d < 64 ∨ (100 ≤ d ∧ d < 164) ∨ (200 ≤ d ∧ d < 260))) : ad (64 * (d / 100) + d % 100) = d ∧ (64 * (d / 100) + d % 100) < 188 := by
  unfold ad
  omega
theorem address_e (hc : c < 188) : L_address c u = some ((ad c : Int), u) := by
  unfold L_address
  rw [gd_t (by omega), gd_t ⟨by omega, by omega⟩, gd_t ⟨by omega, by omega⟩]
  refine some_eq ?_
  unfold ad
  omega
/-- the thing of a cell -/
theorem thg_e (hL : Lb g u) (hI : Iv B k ex g 0) (hd : (d < 64 ∨ (100 ≤ d ∧ d < 164) ∨ (200 ≤ d ∧ d < 260))) : L_thing (cl u d) u = some (if 0 < g 4 0 d then g 3 0 d else -1, u) := by
  by_cases h4 : 0 < g 4 0 d
  · rw [hL.cp hd h4, if_pos h4, thing_p (hI.okp hd h4)]
  · rw [hL.no hd h4, if_neg h4, thing_0]
theorem thg_x (hI : Iv B k ex g 0) (hx : 0 ≤ x) : (if 0 < g 4 0 d then g 3 0 d else -1) = x ↔ 0 < g 4 0 d ∧ g 3 0 d = x := by
  by_cases h4 : 0 < g 4 0 d
  · rw [if_pos h4]
    exact ⟨fun q => ⟨h4, q⟩, fun q => q.2⟩
  · rw [if_neg h4]
    exact ⟨fun q => by omega, fun q => absurd q.1 h4⟩
def cpc (g : Wd) (x : Int) (c : Nat) : Int := cp g 0 x (ad c)
theorem sm_cpc (x : Int) (n : Nat) : 0 ≤ sm (cpc g x) n ∧ sm (cpc g x) n ≤ n := by
  refine ⟨sm_nonneg n (fun i _ => (cp_01 x (ad i)).1), ?_⟩
  have := sm_le (f := cpc g x) (b := 1) n (fun i _ => (cp_01 x (ad i)).2)
  omega
theorem mfirst_l (hL : Lb g u) (hI : Iv B k ex g 0) (hx : 0 ≤ x) : ∀ (n p : Nat) (f : Int), p ≤ 188 → 188 - p < n → ∃ F : Int, L_mends_b9 n x f (sm (cpc g x) p) p u = L_mends_b9 (0 + 1) x F (sm (cpc g x) 188) 188 u ∧ ∀ a : Nat, (a < 64 ∨ (100 ≤ a ∧ a < 164) ∨ (200 ≤ a ∧ a < 260)) → 0 < g 4 0 a ∧ g 3 0 a = x → (∀ d, d < a → ¬ (0 < g 4 0 d ∧ g 3 0 d = x)) → ((64 * (a / 100) + a % 100) < p → f = a) → F = a := by
  intro n
  induction n with
  | zero => intro p f h1 h2; omega
  | succ n ih =>
    intro p f h1 h2
    by_cases hp : p < 188
    · have hia := ad_ia hp
      have hsm := sm_cpc (g := g) x p
      have hnx : sm (cpc g x) (p + 1) = sm (cpc g x) p + cpc g x p := rfl
      rw [L_mends_b9_s, if_pos (by omega), address_e hp, bd_t, at_e (x := (ad p : Int)) (by omega) hia.1, bd_t, show ((ad p : Nat) : Int).toNat = ad p from rfl, thg_e hL hI hia.1, bd_t]
      by_cases hc : 0 < g 4 0 (ad p) ∧ g 3 0 (ad p) = x
      · have e1 : cpc g x p = 1 := if_pos hc
        rw [if_pos ((thg_x hI hx).mpr hc)]
        by_cases h0 : sm (cpc g x) p = 0
        · obtain ⟨F, f1, f2⟩ := ih (p + 1) (ad p) (by omega) (by omega)
          refine ⟨F, ?_, fun a ha hca hlow _ => f2 a ha hca hlow (fun hcn => ?_)⟩
          · rw [if_pos h0, address_e hp, bd_t, gd_t ⟨by omega, by omega⟩, gd_t ⟨by omega, by omega⟩]
            rw [hnx, e1] at f1
            exact f1
          · by_cases e : (64 * (a / 100) + a % 100) = p
            · rw [← e, (ad_cn ha).1]
            · have := sm_ge (f := cpc g x) (k := (64 * (a / 100) + a % 100)) p (by omega) (fun i _ => (cp_01 x (ad i)).1)
              have e2 : cpc g x (64 * (a / 100) + a % 100) = 1 := by
                unfold cpc
                rw [(ad_cn ha).1]
                exact if_pos hca
              omega
        · obtain ⟨F, f1, f2⟩ := ih (p + 1) f (by omega) (by omega)
          refine ⟨F, ?_, fun a ha hca hlow hf => f2 a ha hca hlow (fun hcn => hf ?_)⟩
          · rw [if_neg h0, gd_t ⟨by omega, by omega⟩, gd_t ⟨by omega, by omega⟩]
            rw [hnx, e1] at f1
            exact f1
          · by_cases e : (64 * (a / 100) + a % 100) = p
            · refine absurd (sm_zero p (fun i hi => if_neg (fun q => hlow (ad i) ?_ q))) h0
              have := (ad_cn ha).1
              rw [e] at this
              rw [← this]
              unfold ad
              omega
            · omega
      · have e1 : cpc g x p = 0 := if_neg hc
        obtain ⟨F, f1, f2⟩ := ih (p + 1) f (by omega) (by omega)
        refine ⟨F, ?_, fun a ha hca hlow hf => f2 a ha hca hlow (fun hcn => hf ?_)⟩
        · rw [if_neg (fun q => hc ((thg_x hI hx).mp q)), gd_t ⟨by omega, by omega⟩]
          rw [hnx, e1, Int.add_zero] at f1
          exact f1
        · by_cases e : (64 * (a / 100) + a % 100) = p
          · have := (ad_cn ha).1
            rw [e] at this
            rw [← this] at hca
            exact absurd hca hc
          · omega
    · have : p = 188 := by omega
      subst this
      refine ⟨f, ?_, fun a ha hca hlow hf => hf (ad_cn ha).2⟩
      rw [show ((188 : Nat) : Int) = 188 from rfl, L_mends_b9_s, L_mends_b9_s, if_neg (show ¬ (188 : Int) < 188 by decide), if_neg (show ¬ (188 : Int) < 188 by decide)]
/-- the lowest copy of a thing -/
def Low (g : Wd) (x : Int) (a : Nat) : Prop := (a < 64 ∨ (100 ≤ a ∧ a < 164) ∨ (200 ≤ a ∧ a < 260)) ∧ (0 < g 4 0 a ∧ g 3 0 a = x) ∧ ∀ d, d < a → ¬ (0 < g 4 0 d ∧ g 3 0 d = x)
theorem rpv (hA : Low g x a) {y : Int} (hy : y = 300 ∨ prs g 0 y) : rp g 0 x (a + 1) a y = if y ≠ 300 ∧ g 3 0 y.toNat = x then (a : Int) else y := by
  unfold rp
  rcases hy with q | q
  · rw [if_neg (by omega), if_neg (fun z => z.1 q)]
  · have hl := q.lt
    by_cases e : g 3 0 y.toNat = x
    · have hge : a ≤ y.toNat := by
        by_cases h : a ≤ y.toNat
        · exact h
        · exact absurd ⟨q.2.2, e⟩ (hA.2.2 y.toNat (by omega))
      rw [if_pos (show y ≠ 300 ∧ g 3 0 y.toNat = x from ⟨by omega, e⟩)]
      by_cases h1 : y = a
      · rw [if_neg (by omega)]
        exact h1
      · rw [if_pos ⟨by omega, by omega, q.2.2, e⟩]
    · rw [if_neg (fun z => e z.2.2.2), if_neg (fun z => e z.2)]
theorem mhook_l (hIg : Iv B 8 (-1) g 0) (hm : g 0 0 2 = 0) (hA : Low g x a) (hx : 0 ≤ x) {cn : Int} : ∀ (n p : Nat) (gp u : Wd), p ≤ 8 → 8 - p < n → Lb gp u → Iv B 8 (-1) gp 0 → (∀ c t i, c ≠ 1 → gp c t i = g c t i) → (∀ h, h < 8 → gp 1 0 h = if h < p then rp g 0 x (a + 1) a (g 1 0 h) else g 1 0 h) → ∃ g1 u1, L_mends_b97 n x a cn p u = L_mends_b153 LF x a cn 0 u1 ∧ Lb g1 u1 ∧ Iv B 8 (-1) g1 0 ∧ (∀ c t i, c ≠ 1 → g1 c t i = g c t i) ∧ (∀ h, h < 8 → g1 1 0 h = rp g 0 x (a + 1) a (g 1 0 h)) ∧ FU u u1 := by
  have ha260 : a < 260 := by have := hA.1; omega
  intro n
  induction n with
  | zero => intro p gp u h1 h2; omega
  | succ n ih =>
    intro p gp u h1 h2 hL hI hf hh
    by_cases hp : p < 8
    · have hgp : gp 1 0 p = g 1 0 p := by rw [hh p hp, if_neg (by omega)]
      have hy : g 1 0 p = 300 ∨ prs g 0 (g 1 0 p) := (hIg.H p hp).imp (fun q => q) (fun q => q.1)
      have hlu : u 31 0 p = nn (g 1 0 p) := by rw [hL.2.1 p hp, hgp]
      have hv := rpv hA hy
      have same : rp g 0 x (a + 1) a (g 1 0 p) = g 1 0 p → ∀ h, h < 8 → gp 1 0 h = if h < p + 1 then rp g 0 x (a + 1) a (g 1 0 h) else g 1 0 h := fun e h h8 => by
        rw [hh h h8]
        by_cases e1 : h = p
        · subst e1
          rw [if_neg (by omega), if_pos (by omega), e]
        · by_cases e2 : h < p
          · rw [if_pos e2, if_pos (by omega)]
          · rw [if_neg e2, if_neg (by omega)]
      rw [L_mends_b97_s, if_pos (by omega), gd_t ⟨by omega, by omega⟩, show ((p : Nat) : Int).toNat = p from rfl]
      rcases hy with q | q
      · rw [if_pos (show u 31 0 p < 0 by rw [hlu, q, nn_300]; decide), gd_t ⟨by omega, by omega⟩, up_self]
        rw [if_neg (fun z => z.1 q)] at hv
        exact ih (p + 1) gp u (by omega) (by omega) hL hI hf (same hv)
      · have hl := q.lt
        have hq : prs gp 0 (g 1 0 p) := ⟨q.1, q.2.1, by rw [hf 4 0 _ (by decide)]; exact q.2.2⟩
        rw [nn_ne (by omega)] at hlu
        rw [if_neg (by omega), hlu, at_e q.1 q.2.1, bd_t, thg_e hL hI q.2.1, bd_t, if_pos hq.2.2, hf 3 0 _ (by decide)]
        by_cases e : g 3 0 (g 1 0 p).toNat = x
        · rw [if_pos ⟨by omega, e⟩] at hv
          rw [if_pos e, gd_t ⟨by omega, by omega⟩]
          have hla : liv gp 0 a := ⟨⟨by omega, hA.1, by rw [hf 4 0 _ (by decide)]; exact hA.2.1.1⟩, fun z => by rw [hf 0 0 2 (by decide)] at z; omega⟩
          have hL' := hL.hw hp (r := (a : Int))
          rw [nn_ne (by omega)] at hL'
          obtain ⟨g1, u1, k1, k2, k3, k4, k5, k6⟩ := ih (p + 1) (up gp 1 0 p a) (up u 31 0 p a) (by omega) (by omega) hL' (hI.hw hp (fun j hj => Or.inl hj) (Or.inr hla)) (fun c t i hc => by rw [up_c hc, hf c t i hc]) (fun h h8 => by
            by_cases e1 : h = p
            · subst e1
              rw [up_h rfl, if_pos (by omega), hv]
            · rw [up_n e1, hh h h8]
              by_cases e2 : h < p
              · rw [if_pos e2, if_pos (by omega)]
              · rw [if_neg e2, if_neg (by omega)])
          exact ⟨g1, u1, k1, k2, k3, k4, k5, (FU.ups FU.rf (by decide)).tr k6⟩
        · rw [if_neg (fun z => e z.2)] at hv
          rw [if_neg e, gd_t ⟨by omega, by omega⟩, up_self]
          exact ih (p + 1) gp u (by omega) (by omega) hL hI hf (same hv)
    · have e8 : p = 8 := by omega
      subst e8
      refine ⟨gp, u, ?_, hL, hI, hf, fun h h8 => ?_, FU.rf⟩
      · rw [L_mends_b97_s, if_neg (by decide)]
      · rw [hh h h8, if_pos h8]
theorem mname_l (hIg : Iv B 8 (-1) g 0) (hm : g 0 0 2 = 0) (hA : Low g x a) (hx : 0 ≤ x) (hgb : ∀ c t i, c ≠ 1 → gb c t i = g c t i) {cn : Int} : ∀ (n p : Nat) (gp u : Wd), p ≤ 376 → 376 - p < n → Lb gp u → Iv B 8 (-1) gp 0 → (∀ c t i, c ≠ 7 → gp c t i = gb c t i) → (∀ d, (d < 64 ∨ (100 ≤ d ∧ d < 164) ∨ (200 ≤ d ∧ d < 260)) → 0 < g 4 0 d → ∀ j, j < 2 → gp 7 0 (2 * d + j) = if 2 * (64 * (d / 100) + d % 100) + j < p then rp g 0 x (a + 1) a (g 7 0 (2 * d + j)) else g 7 0 (2 * d + j)) → ∃ g1 u1, L_mends_b153 n x a cn p u = L_mends_b253 LF x a cn 0 u1 ∧ Lb g1 u1 ∧ Iv B 8 (-1) g1 0 ∧ (∀ c t i, c ≠ 7 → g1 c t i = gb c t i) ∧ (∀ d, (d < 64 ∨ (100 ≤ d ∧ d < 164) ∨ (200 ≤ d ∧ d < 260)) → 0 < g 4 0 d → ∀ j, j < 2 → g1 7 0 (2 * d + j) = rp g 0 x (a + 1) a (g 7 0 (2 * d + j))) ∧ FU u u1 := by
  have ha260 : a < 260 := by have := hA.1; omega
  intro n
  induction n with
  | zero => intro p gp u h1 h2; omega
  | succ n ih =>
    intro p gp u h1 h2 hL hI hf hh
    have hf' : ∀ c t i, c ≠ 7 → c ≠ 1 → gp c t i = g c t i := fun c t i h7 h1 => (hf c t i h7).trans (hgb c t i h1)
    by_cases hp : p < 376
    · obtain ⟨c, hc⟩ : ∃ c : Nat, c = p / 2 := ⟨_, rfl⟩
      obtain ⟨j, hj⟩ : ∃ j : Nat, j = p % 2 := ⟨_, rfl⟩
      obtain ⟨d, hd⟩ : ∃ d : Nat, d = ad c := ⟨_, rfl⟩
      have hj2 : j < 2 := by omega
      have hia := ad_ia (c := c) (by omega)
      rw [← hd] at hia
      have hcn := hia.2
      have hia := hia.1
      have hpj : p = 2 * c + j := by omega
      have e1 : ((p : Nat) : Int) / 2 = (c : Int) := by omega
      have e2 : ((p : Nat) : Int) % 2 = (j : Int) := by omega
      have nxt : (0 < g 4 0 d → rp g 0 x (a + 1) a (g 7 0 (2 * d + j)) = g 7 0 (2 * d + j)) → ∀ b, (b < 64 ∨ (100 ≤ b ∧ b < 164) ∨ (200 ≤ b ∧ b < 260)) → 0 < g 4 0 b → ∀ i, i < 2 → gp 7 0 (2 * b + i) = if 2 * (64 * (b / 100) + b % 100) + i < p + 1 then rp g 0 x (a + 1) a (g 7 0 (2 * b + i)) else g 7 0 (2 * b + i) := fun e b hb hp4 i hi => by
        rw [hh b hb hp4 i hi]
        by_cases e1 : 2 * (64 * (b / 100) + b % 100) + i = p
        · have hbd : b = d := by
            have := (ad_cn hb).1
            rw [show (64 * (b / 100) + b % 100) = c by omega] at this
            omega
          subst hbd
          have hij : i = j := by omega
          subst hij
          rw [if_neg (by omega), if_pos (by omega), e hp4]
        · by_cases e2 : 2 * (64 * (b / 100) + b % 100) + i < p
          · rw [if_pos e2, if_pos (by omega)]
          · rw [if_neg e2, if_neg (by omega)]
      rw [L_mends_b153_s, if_pos (by omega), gd_t (by omega), e1, address_e (c := c) (by omega), bd_t, at_e (by omega) (by rw [← hd]; exact hia), bd_t, show ((ad c : Nat) : Int).toNat = d by rw [hd]; rfl, ← hd]
      by_cases h4 : 0 < g 4 0 d
      · have h4p : 0 < gp 4 0 d := by rw [hf' 4 0 _ (by decide) (by decide)]; exact h4
        have ok := hI.okp hia h4p
        have hb := pk_b ok
        have hgp : gp 7 0 (2 * d + j) = g 7 0 (2 * d + j) := by rw [hh d hia h4 j hj2, if_neg (by omega)]
        have hy : g 7 0 (2 * d + j) = 300 ∨ prs g 0 (g 7 0 (2 * d + j)) := hIg.N d (by omega) h4 j hj2
        have hv := rpv hA hy
        have hname : L_name (cl u d) j u = some (nn (g 7 0 (2 * d + j)), u) := by
          rw [hL.cp hia h4p, ← hgp]
          obtain ⟨p0, p1, -⟩ := name_p (w := u) ok
          rcases (show j = 0 ∨ j = 1 by omega) with rfl | rfl
          · exact p0
          · exact p1
        rw [if_neg (fun q => by rw [hL.cp hia h4p, cmp_e (pk_l ok) ⟨by decide, by decide⟩] at q; omega), e2, hname, bd_t]
        unfold L_mends_b203
        rcases hy with q | q
        · rw [if_neg (fun z => z.1 q)] at hv
          rw [if_pos (show nn (g 7 0 (2 * d + j)) < 0 by rw [q, nn_300]; decide), gd_t ⟨by omega, by omega⟩]
          exact ih (p + 1) gp u (by omega) (by omega) hL hI hf (nxt (fun _ => hv))
        · have hl := q.lt
          have hqp : prs gp 0 (g 7 0 (2 * d + j)) := ⟨q.1, q.2.1, by rw [hf' 4 0 _ (by decide) (by decide)]; exact q.2.2⟩
          rw [nn_ne (show g 7 0 (2 * d + j) ≠ 300 by omega), if_neg (by omega), at_e q.1 q.2.1, bd_t, thg_e hL hI q.2.1, bd_t, if_pos hqp.2.2, hf' 3 0 _ (by decide) (by decide)]
          by_cases e : g 3 0 (g 7 0 (2 * d + j)).toNat = x
          · rw [if_pos ⟨by omega, e⟩] at hv
            have hpa : prs gp 0 a := ⟨by omega, hA.1, by rw [hf' 4 0 _ (by decide) (by decide)]; exact hA.2.1.1⟩
            have hla : liv gp 0 a := ⟨hpa, fun z => by rw [hf' 0 0 2 (by decide) (by decide)] at z; omega⟩
            obtain ⟨u1, k1, k2, k3⟩ := ren_L hL hI (x := (d : Int)) ⟨by omega, hia, h4p⟩ (j := j) (by omega) (r := (a : Int)) (Or.inr hpa)
            rw [nn_ne (by omega)] at k1
            have k2 : Lb (up gp 7 0 (2 * d + j) a) u1 := by rw [← nw_nf hj2]; exact k2
            obtain ⟨g1, u2, l1, l2, l3, l4, l5, l6⟩ := ih (p + 1) (up gp 7 0 (2 * d + j) a) u1 (by omega) (by omega) k2 (hI.nw (Or.inr hla)) (fun c t i hc => by rw [up_c hc, hf c t i hc]) (fun b hb hp4 i hi => by
              by_cases e1 : 2 * b + i = 2 * d + j
              · have hbd : b = d := by omega
                subst hbd
                have hij : i = j := by omega
                subst hij
                rw [up_h rfl, if_pos (by omega), hv]
              · rw [up_n e1, hh b hb hp4 i hi]
                have hne : 2 * (64 * (b / 100) + b % 100) + i ≠ p := fun z => e1 (by
                  have := (ad_cn hb).1
                  rw [show (64 * (b / 100) + b % 100) = c by omega] at this
                  omega)
                by_cases e2 : 2 * (64 * (b / 100) + b % 100) + i < p
                · rw [if_pos e2, if_pos (by omega)]
                · rw [if_neg e2, if_neg (by omega)])
            refine ⟨g1, u2, ?_, l2, l3, l4, l5, k3.tr l6⟩
            rw [if_pos e, gd_t (by omega), e2, k1, bd_t, gd_t ⟨by omega, by omega⟩]
            exact l1
          · rw [if_neg (fun z => e z.2)] at hv
            rw [if_neg e, gd_t ⟨by omega, by omega⟩]
            exact ih (p + 1) gp u (by omega) (by omega) hL hI hf (nxt (fun _ => hv))
      · have h4p : ¬ 0 < gp 4 0 d := by rw [hf' 4 0 _ (by decide) (by decide)]; exact h4
        rw [hL.no hia h4p, if_pos ((cmp_e ⟨by decide, by decide⟩ ⟨by decide, by decide⟩).mpr rfl)]
        unfold L_mends_b203
        rw [if_pos (by decide), gd_t ⟨by omega, by omega⟩]
        exact ih (p + 1) gp u (by omega) (by omega) hL hI hf (nxt (fun z => absurd z h4))
    · have e8 : p = 376 := by omega
      subst e8
      refine ⟨gp, u, ?_, hL, hI, hf, fun d hd h4 j hj => ?_, FU.rf⟩
      · rw [L_mends_b153_s, if_neg (by decide)]
      · have := (ad_cn hd).2
        rw [hh d hd h4 j hj, if_pos (by omega)]
theorem mrem_l (hIb : Iv B 8 (-1) gb 0) (hA : Low gb x a) (hx : 0 ≤ x) {cn : Int} : ∀ (n p : Nat) (gp u : Wd), p ≤ 188 → 188 - p < n → Lb gp u → (∀ c t i, c ≠ 4 → gp c t i = gb c t i) → (∀ d, (d < 64 ∨ (100 ≤ d ∧ d < 164) ∨ (200 ≤ d ∧ d < 260)) → gp 4 0 d = if (64 * (d / 100) + d % 100) < p ∧ d ≠ a ∧ 0 < gb 4 0 d ∧ gb 3 0 d = x then 0 else gb 4 0 d) → ∃ g1 u1, L_mends_b253 n x a cn p u = L_mends_b253 (0 + 1) x a cn 188 u1 ∧ Lb g1 u1 ∧ (∀ c t i, c ≠ 4 → g1 c t i = gb c t i) ∧ (∀ d, (d < 64 ∨ (100 ≤ d ∧ d < 164) ∨ (200 ≤ d ∧ d < 260)) → g1 4 0 d = if d ≠ a ∧ 0 < gb 4 0 d ∧ gb 3 0 d = x then 0 else gb 4 0 d) ∧ FU u u1 := by
  intro n
  induction n with
  | zero => intro p gp u h1 h2; omega
  | succ n ih =>
    intro p gp u h1 h2 hL hf hh
    by_cases hp : p < 188
    · obtain ⟨d, hd⟩ : ∃ d : Nat, d = ad p := ⟨_, rfl⟩
      have hia := ad_ia hp
      rw [← hd] at hia
      have hcn := hia.2
      have hia := hia.1
      have hdp := hh d hia
      rw [if_neg (fun q => by omega)] at hdp
      have nxt : ¬ (d ≠ a ∧ 0 < gb 4 0 d ∧ gb 3 0 d = x) → ∀ b, (b < 64 ∨ (100 ≤ b ∧ b < 164) ∨ (200 ≤ b ∧ b < 260)) → gp 4 0 b = if (64 * (b / 100) + b % 100) < p + 1 ∧ b ≠ a ∧ 0 < gb 4 0 b ∧ gb 3 0 b = x then 0 else gb 4 0 b := fun e b hb => by
        by_cases e1 : (64 * (b / 100) + b % 100) = p
        · have hbd : b = d := by
            have := (ad_cn hb).1
            rw [e1] at this
            omega
          subst hbd
          rw [hdp, if_neg (fun q => e q.2)]
        · rw [hh b hb]
          by_cases e2 : (64 * (b / 100) + b % 100) < p
          · by_cases e3 : b ≠ a ∧ 0 < gb 4 0 b ∧ gb 3 0 b = x
            · rw [if_pos ⟨e2, e3⟩, if_pos ⟨by omega, e3⟩]
            · rw [if_neg (fun q => e3 q.2), if_neg (fun q => e3 q.2)]
          · rw [if_neg (fun q => e2 q.1), if_neg (fun q => by omega)]
      have hthg : L_thing (cl u d) u = some (if 0 < gb 4 0 d then gb 3 0 d else -1, u) := by
        have hcv : cv gp d = cv gb d := by
          unfold cv
          rw [hdp, hf 3 0 _ (by decide), hf 5 0 _ (by decide), hf 6 0 _ (by decide), hf 7 0 _ (by decide), hf 7 0 _ (by decide)]
        rw [hL.2.2.2.1.1 d hia, hcv]
        unfold cv
        by_cases h4 : 0 < gb 4 0 d
        · rw [if_pos h4, if_pos h4, thing_p (hIb.okp hia h4)]
        · rw [if_neg h4, if_neg h4, thing_0]
      rw [L_mends_b253_s, if_pos (by omega), address_e hp, bd_t, ← hd]
      by_cases ea : d = a
      · rw [if_pos (by omega), gd_t ⟨by omega, by omega⟩]
        exact ih (p + 1) gp u (by omega) (by omega) hL hf (nxt (fun q => q.1 ea))
      · rw [if_neg (by omega), address_e hp, bd_t, ← hd, at_e (x := (d : Int)) (by omega) hia, bd_t, show ((d : Nat) : Int).toNat = d from rfl, hthg, bd_t]
        by_cases e : 0 < gb 4 0 d ∧ gb 3 0 d = x
        · have hL' : Lb (up gp 4 0 d 0) (pt u d 0) := by
            have h0 : cv (up gp 4 0 d 0) d = 0 := by
              unfold cv
              rw [up_h rfl, if_neg (by decide)]
            have := hL.cell (g1 := up gp 4 0 d 0) hia (fun i => up_c (by decide)) (fun i => up_c (by decide)) (fun i => up_c (by decide)) (fun i => up_c (by decide)) (fun b hb hne => ⟨up_c (by decide), up_n hne, up_c (by decide), up_c (by decide), up_c (by decide), up_c (by decide)⟩) (fun q => by rw [up_h rfl] at q; omega)
            rw [h0] at this
            exact this
          obtain ⟨g1, u1, k1, k2, k3, k4, k5⟩ := ih (p + 1) (up gp 4 0 d 0) (pt u d 0) (by omega) (by omega) hL' (fun c t i hc => by rw [up_c hc, hf c t i hc]) (fun b hb => by
            by_cases e1 : b = d
            · subst e1
              rw [up_h rfl, if_pos ⟨by omega, ea, e⟩]
            · have hne : (64 * (b / 100) + b % 100) ≠ p := fun z => e1 (by
                have := (ad_cn hb).1
                rw [z] at this
                omega)
              rw [up_n e1, hh b hb]
              by_cases e3 : b ≠ a ∧ 0 < gb 4 0 b ∧ gb 3 0 b = x
              · by_cases e2 : (64 * (b / 100) + b % 100) < p
                · rw [if_pos ⟨e2, e3⟩, if_pos ⟨by omega, e3⟩]
                · rw [if_neg (fun q => e2 q.1), if_neg (fun q => by omega)]
              · rw [if_neg (fun q => e3 q.2), if_neg (fun q => e3 q.2)])
          refine ⟨g1, u1, ?_, k2, k3, k4, (FU.pts FU.rf).tr k5⟩
          rw [if_pos ((thg_x hIb hx).mpr e), address_e hp, bd_t, ← hd, puts_e (x := (d : Int)) (by omega) hia, bd_t, gd_t ⟨by omega, by omega⟩]
          exact k1
        · rw [if_neg (fun q => e ((thg_x hIb hx).mp q)), gd_t ⟨by omega, by omega⟩]
          exact ih (p + 1) gp u (by omega) (by omega) hL hf (nxt (fun q => e q.2))
    · have e8 : p = 188 := by omega
      subst e8
      refine ⟨gp, u, ?_, hL, hf, fun d hd => ?_, FU.rf⟩
      · rw [show ((188 : Nat) : Int) = 188 from rfl, L_mends_b253_s, L_mends_b253_s, if_neg (show ¬ (188 : Int) < 188 by decide), if_neg (show ¬ (188 : Int) < 188 by decide)]
      · have := (ad_cn hd).2
        rw [hh d hd]
        by_cases e3 : d ≠ a ∧ 0 < gb 4 0 d ∧ gb 3 0 d = x
        · rw [if_pos ⟨this, e3⟩, if_pos e3]
        · rw [if_neg (fun q => e3 q.2), if_neg e3]
theorem Lb.ext {g1 : Wd} (hL : Lb g u) (h0 : ∀ i, g1 0 0 i = g 0 0 i) (h1 : ∀ h, h < 8 → g1 1 0 h = g 1 0 h) (h8 : ∀ i, g1 8 0 i = g 8 0 i) (h9 : ∀ i, g1 9 0 i = g 9 0 i) (hc : ∀ b : Nat, (b < 64 ∨ (100 ≤ b ∧ b < 164) ∨ (200 ≤ b ∧ b < 260)) → g1 4 0 b = g 4 0 b ∧ (0 < g 4 0 b → g1 3 0 b = g 3 0 b ∧ g1 5 0 b = g 5 0 b ∧ g1 6 0 b = g 6 0 b ∧ g1 7 0 (2 * b) = g 7 0 (2 * b) ∧ g1 7 0 (2 * b + 1) = g 7 0 (2 * b + 1))) : Lb g1 u := by
  refine ⟨?_, ?_, ?_, ⟨fun b hb => ?_, hL.2.2.2.1.2⟩, fun b hb hp => ?_⟩
  · unfold LbA
    simp only [h0, h8]
    exact hL.1
  · intro h hh
    rw [h1 h hh]
    exact hL.2.1 h hh
  · intro j hj
    rw [h8, h8] at hj
    rw [h8, h9]
    exact hL.2.2.1 j hj
  · rw [hL.2.2.2.1.1 b hb]
    obtain ⟨z1, z2⟩ := hc b hb
    unfold cv
    rw [z1]
    by_cases h4 : 0 < g 4 0 b
    · obtain ⟨y1, y2, y3, y4, y5⟩ := z2 h4
      rw [if_pos h4, if_pos h4, y1, y2, y3, y4, y5]
    · rw [if_neg h4, if_neg h4]
  · obtain ⟨z1, z2⟩ := hc b hb
    rw [z1] at hp
    rw [z1, (z2 hp).1]
    exact hL.2.2.2.2 b hb hp
theorem mend_L (hI : Iv B 8 (-1) g 0) (hW : IvW g 0) (hL : Lb g u) (hx : 0 ≤ x ∧ x < g 0 0 1) : ∃ (r : Int) (g' u' : Wd), X5_mendTwins 0 x g = some (r, g') ∧ Act B g u r g' u' ∧ L_mends x u = bd (X7_mend x u') fun r20 w21 => if r20 = r then some (1, w21) else some (0, w21) := by
  obtain ⟨a0, a1, a2, a3, a4, a5, a6, a7, a8⟩ := hL.1
  have hA := hI.A
  unfold IvA at hA
  obtain ⟨F, F1, F2⟩ := mfirst_l hL hI hx.1 LF 0 (-1) (by omega) (by rw [show LF = 10000 from rfl]; omega)
  have htot : sm (cpc g x) 188 = sm (cp g 0 x) 260 := (sm_cells (f := cp g 0 x) (cp_out hI x)).symm
  have hcb := sm_cp (w := g) (t := 0) x 260
  have hrun : L_mends x u = L_mends_b9 (0 + 1) x F (sm (cp g 0 x) 260) 188 u := by
    rw [← htot]
    exact F1
  rw [hrun, L_mends_b9_s, if_neg (show ¬ (188 : Int) < 188 by decide), a2]
  have fail : X5_mendTwins 0 x g = some (-2, g) → ∃ (r : Int) (g' u' : Wd), X5_mendTwins 0 x g = some (r, g') ∧ Act B g u r g' u' ∧ L_mends_b77 x u = bd (X7_mend x u') fun r20 w21 => if r20 = r then some (1, w21) else some (0, w21) := fun h => ⟨-2, g, u, h, ⟨⟨by decide, by decide⟩, Or.inl ⟨by decide, rfl, rfl⟩⟩, rfl⟩
  by_cases hm : g 0 0 2 = 0
  case neg =>
    rw [if_pos (show g 0 0 2 = 1 by omega)]
    refine fail ?_
    unfold X5_mendTwins
    rw [isThing_e, if_pos hx, bd_t, if_neg (by decide), if_neg hm]
  have etc : ∀ n, sm (tw g 0 x) n = sm (cp g 0 x) n := fun n => sm_congr n (fun i _ => by
    unfold tw cp
    by_cases e : 0 < g 4 0 i ∧ g 3 0 i = x
    · rw [if_pos e, if_pos ⟨e.1, e.2, by omega⟩]
    · rw [if_neg e, if_neg (fun q => e ⟨q.1, q.2.1⟩)])
  rw [if_neg (show ¬ g 0 0 2 = 1 by omega)]
  by_cases h2 : 1 < sm (tw g 0 x) 260
  case neg =>
    rw [if_pos (show sm (cp g 0 x) 260 < 2 by rw [← etc]; omega)]
    refine fail ?_
    unfold X5_mendTwins
    rw [isThing_e, if_pos hx, bd_t, if_neg (by decide), if_pos hm, hasTwins_e hI, if_neg h2, bd_t, if_pos rfl]
  rw [if_neg (show ¬ sm (cp g 0 x) 260 < 2 by rw [← etc]; omega)]
  obtain ⟨r, f1, f2⟩ := addressOf_e (w := g) (t := 0) (x := x) (y := 0) (by decide)
  have f3 := f2.resolve_left (fun q => by
    have := q.2
    rw [← etc] at this
    omega)
  obtain ⟨f4, f5, f6, f7, f8⟩ := f3
  obtain ⟨a, rfl⟩ : ∃ a : Nat, r = a := ⟨r.toNat, by omega⟩
  rw [show ((a : Nat) : Int).toNat = a from rfl] at f6 f7 f8
  have ha260 : a < 260 := by omega
  have hia := ((hI.S a ha260).2.2 f6).1
  have hl : ∀ d, d < a → ¬ (0 < g 4 0 d ∧ g 3 0 d = x) := fun d hd q => by
    have := sm_ge (f := cp g 0 x) a hd (fun i _ => (cp_01 x i).1)
    have e : cp g 0 x d = 1 := if_pos q
    omega
  have hLow : Low g x a := ⟨hia, ⟨f6, f7⟩, hl⟩
  have hF : F = a := F2 a hia ⟨f6, f7⟩ hl (fun q => by omega)
  have hs1 : sm (cp g 0 x) (a + 1) = 1 := by
    show sm (cp g 0 x) a + cp g 0 x a = 1
    rw [f8, show cp g 0 x a = 1 from if_pos ⟨f6, f7⟩]
    rfl
  obtain ⟨w1, m1, m2, m3, m4, m5⟩ := mend_l (t := 0) (a := a) (x := x) LF (a + 1) 0 g (by omega) (by rw [show LF = 10000 from rfl]; omega) (by omega) (by omega)
  rw [hs1, Int.zero_add] at m1
  rw [show ((a + 1 : Nat) : Int) = (a : Int) + 1 by omega] at m1
  have hc : X5_mendTwins 0 x g = some (sm (cp g 0 x) 260 - 1, w1) := by
    unfold X5_mendTwins
    rw [isThing_e, if_pos hx, bd_t, if_neg (by decide), if_pos hm, hasTwins_e hI, if_pos h2, bd_t, if_neg (by decide), f1, bd_t, gd_t ⟨by omega, by omega⟩, m1]
  have h2' : 1 < sm (cp g 0 x) 260 := by rw [← etc]; exact h2
  have e0 : ((0 : Nat) : Int) = 0 := rfl
  obtain ⟨gH, uH, k1, k2, k3, k4, k5, k6⟩ := mhook_l hI hm hLow hx.1 (cn := sm (cp g 0 x) 260) LF 0 g u (by omega) (by rw [show LF = 10000 from rfl]; omega) hL hI (fun _ _ _ _ => rfl) (fun h h8 => by rw [if_neg (by omega)])
  obtain ⟨gN, uN, l1, l2, l3, l4, l5, l6⟩ := mname_l hI hm hLow hx.1 k4 (cn := sm (cp g 0 x) 260) LF 0 gH uH (by omega) (by rw [show LF = 10000 from rfl]; omega) k2 k3 (fun _ _ _ _ => rfl) (fun d hd h4 j hj => by rw [if_neg (by omega), k4 7 0 _ (by decide)])
  have gN' : ∀ c t i, c ≠ 7 → c ≠ 1 → gN c t i = g c t i := fun c t i h7 h1 => (l4 c t i h7).trans (k4 c t i h1)
  have hLowN : Low gN x a := ⟨hia, by rw [gN' 4 0 _ (by decide) (by decide), gN' 3 0 _ (by decide) (by decide)]; exact ⟨f6, f7⟩, fun d hd => by rw [gN' 4 0 _ (by decide) (by decide), gN' 3 0 _ (by decide) (by decide)]; exact hl d hd⟩
  obtain ⟨gR, uR, s1, s2, s3, s4, s5⟩ := mrem_l l3 hLowN hx.1 (cn := sm (cp g 0 x) 260) LF 0 gN uN (by omega) (by rw [show LF = 10000 from rfl]; omega) l2 (fun _ _ _ _ => rfl) (fun d hd => by rw [if_neg (fun q => by omega)])
  have gR' : ∀ c t i, c ≠ 4 → c ≠ 7 → c ≠ 1 → gR c t i = g c t i := fun c t i h4 h7 h1 => (s3 c t i h4).trans (gN' c t i h7 h1)
  have ow : ∀ c, c ≠ 4 → c ≠ 7 → c ≠ 1 → ∀ i, w1 c 0 i = g c 0 i := fun c h1 h2 h3 i => m2 c 0 i (by omega)
  have hI2 := hI.md hm (hW.2 hm) ha260 ⟨f6, f7⟩ m2 m3 m4 m5
  have e4 : ∀ b : Nat, (b < 64 ∨ (100 ≤ b ∧ b < 164) ∨ (200 ≤ b ∧ b < 260)) → w1 4 0 b = gR 4 0 b := fun b hb => by
    rw [m3, s4 b hb, gN' 4 0 _ (by decide) (by decide), gN' 3 0 _ (by decide) (by decide)]
    by_cases e : 0 < g 4 0 b ∧ g 3 0 b = x
    · by_cases e1 : b = a
      · rw [if_neg (by omega), if_neg (fun q => q.1 e1)]
      · have : a ≤ b := by
          by_cases z : a ≤ b
          · exact z
          · exact absurd e (hl b (by omega))
        rw [if_pos ⟨by omega, by omega, e⟩, if_pos ⟨e1, e⟩]
    · rw [if_neg (fun q => e q.2.2), if_neg (fun q => e q.2)]
  have hLf : Lb w1 uR := by
    refine s2.ext (fun i => by rw [ow 0 (by decide) (by decide) (by decide), gR' 0 0 i (by decide) (by decide) (by decide)]) (fun h hh => ?_) (fun i => by rw [ow 8 (by decide) (by decide) (by decide), gR' 8 0 i (by decide) (by decide) (by decide)]) (fun i => by rw [ow 9 (by decide) (by decide) (by decide), gR' 9 0 i (by decide) (by decide) (by decide)]) (fun b hb => ⟨e4 b hb, fun hp => ?_⟩)
    · rw [m4 h hh, s3 1 0 h (by decide), l4 1 0 h (by decide), k5 h hh]
    · have hp0 : 0 < g 4 0 b := by
        rw [s4 b hb] at hp
        split at hp
        · omega
        · rw [gN' 4 0 _ (by decide) (by decide)] at hp; exact hp
      have n0 := l5 b hb hp0 0 (by decide)
      have n1 := l5 b hb hp0 1 (by decide)
      rw [Nat.add_zero] at n0
      refine ⟨by rw [ow 3 (by decide) (by decide) (by decide), gR' 3 0 b (by decide) (by decide) (by decide)], by rw [ow 5 (by decide) (by decide) (by decide), gR' 5 0 b (by decide) (by decide) (by decide)], by rw [ow 6 (by decide) (by decide) (by decide), gR' 6 0 b (by decide) (by decide) (by decide)], ?_, ?_⟩
      · rw [m5 _ (by omega), s3 7 0 _ (by decide), n0]
      · rw [m5 _ (by omega), s3 7 0 _ (by decide), n1]
  have hcnt : Cn g w1 0 := by
    have hw0 := hW.2 hm
    have hw : Wt w1 = 0 := by
      unfold Wt
      rw [ow 8 (by decide) (by decide) (by decide), ow 8 (by decide) (by decide) (by decide)]
      omega
    have hwg : Wt g = 0 := by unfold Wt; omega
    have := (Pm_le (g := w1)).1
    refine ⟨?_, fun _ => by omega, by omega, by rw [ow 0 (by decide) (by decide) (by decide), ow 0 (by decide) (by decide) (by decide)]; omega⟩
    have : Phi w1 ≤ Phi g := sm_mono 260 (fun i hi => by
      unfold fP
      rw [m3, ow 5 (by decide) (by decide) (by decide)]
      by_cases e : a + 1 ≤ i ∧ i < 260 ∧ 0 < g 4 0 i ∧ g 3 0 i = x
      · rw [if_pos e, if_neg (fun q => by omega)]
        split <;> omega
      · rw [if_neg e]
        exact Int.le_refl _)
    omega
  refine ⟨_, w1, uR, hc, ⟨⟨by omega, by omega⟩, Or.inr ⟨by omega, hI2.mono (by omega), ?_, fun c t' i hn => m2 c t' i (by omega), k6.tr (l6.tr s5), hLf, 0, Or.inl rfl, hcnt⟩⟩, ?_⟩
  · unfold IvW
    rw [ow 0 (by decide) (by decide) (by decide), ow 8 (by decide) (by decide) (by decide), ow 8 (by decide) (by decide) (by decide)]
    exact hW
  · rw [hF]
    rw [e0] at k1 l1 s1
    rw [k1, l1, s1, L_mends_b253_s, if_neg (show ¬ (188 : Int) < 188 by decide)]
    have hg : ∀ (r12 : Int) (w13 : Wd), (gd (InR (sm (cp g 0 x) 260 - 1)) (if r12 = sm (cp g 0 x) 260 - 1 then (some ((1 : Int), w13)) else (some (0, w13)))) = if r12 = sm (cp g 0 x) 260 - 1 then some (1, w13) else some (0, w13) := fun r12 w13 => gd_t ⟨by omega, by omega⟩
    simp only [hg]
end MDL
