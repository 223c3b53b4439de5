/-! PURE: an act of the law, whole -/
def GK (B : Int) (w : Wd) : Prop := Iv B 8 (-1) w 0 ∧ IvW w 0 ∧ (0 ≤ w 11 0 0 ∧ w 11 0 0 < 6) ∧ (0 ≤ w 11 0 1 ∧ w 11 0 1 ≤ 5) ∧ w 17 0 0 = 0
def CT (n : Int) (g : Wd) : Prop := Phi g ≤ g 0 0 1 + g 0 0 5 ∧ Wt g ≤ Pm g ∧ Wt g ≤ 8 * (n - (g 0 0 1 + g 0 0 5)) ∧ g 0 0 1 + g 0 0 5 ≤ n
/-- what holds between two acts; n acts are done -/
def SK (n : Int) (w : Wd) : Prop := GK n w ∧ Lb w w ∧ CT n w
section AC
variable {n : Int} {w g u : Wd} {a i h o j : Nat}
theorem CT.cg {g1 : Wd} (hC : CT n g) (hg : Ag g 0 g1 0) : CT n g1 := by
  have e : Wt g1 = Wt g := by
    unfold Wt
    rw [hg.r8 (by decide), hg.r8 (by decide)]
  have p : Pm g1 = Pm g := Pm_cg (fun a ha => ⟨hg.rc (by decide) ha, hg.rc (by decide) ha, hg.rc (by decide) ha⟩) (hg.r0 (by decide))
  have f : Phi g1 = Phi g := Phi_cg (fun a ha => ⟨hg.rc (by decide) ha, hg.rc (by decide) ha⟩)
  unfold CT
  rw [e, p, f, hg.r0 (by decide), hg.r0 (by decide)]
  exact hC
theorem CT.cn {g1 : Wd} {d : Int} (hC : CT n g) (hd : d = 0 ∨ d = 1) (h : Cn g g1 d) : CT (n + 1) g1 := by
  obtain ⟨c1, c2, c3, c4⟩ := hC
  obtain ⟨d1, d2, d3, d4⟩ := h
  have := d2 c2
  refine ⟨by omega, this, ?_, by omega⟩
  rcases hd with q | q <;> rw [q] at d3 d4 <;> omega
theorem CT.mono (hC : CT n g) : CT (n + 1) g := by
  obtain ⟨c1, c2, c3, c4⟩ := hC
  exact ⟨c1, c2, by omega, by omega⟩
theorem CT.cap (hC : CT n g) (hn : n ≤ 66) : Cap g 8 := by
  obtain ⟨c1, c2, c3, c4⟩ := hC
  unfold Cap
  by_cases h : g 0 0 1 + g 0 0 5 ≤ 64
  · exact Or.inl (by omega)
  · exact Or.inr (by omega)
theorem SK.mono (hS : SK n w) : SK (n + 1) w := ⟨⟨hS.1.1.mono (by omega), hS.1.2⟩, hS.2.1, hS.2.2.mono⟩
theorem draft_K (hm : w 0 0 2 = 0 ∨ w 0 0 2 = 1) (h0 : 0 ≤ w 11 0 0 ∧ w 11 0 0 < 6) (h1 : 0 ≤ w 11 0 1 ∧ w 11 0 1 ≤ 5) : ∃ w1, X2_draft 0 w = some (0, w1) ∧ FrC (sl w (w 11 0 1).toNat) w w1 := by
  have es : ((w 11 0 0 + w 11 0 1) % 6).toNat + 2 = sl w (w 11 0 1).toNat := by
    unfold sl
    omega
  obtain ⟨w1, g1, g2, g3⟩ := become_e (w := w) (t := sl w (w 11 0 1).toNat) (t1 := 0) (by unfold sl; omega) hm
  refine ⟨w1, ?_, g3⟩
  unfold X2_draft
  rw [slot_e h0 (by omega), bd_t, gd_t ⟨by omega, by omega⟩, es, g1, bd_t]
/-- a call of the class behind what the law does itself -/
theorem op_K (hS : SK n w) (hn : 0 ≤ n) {cl : Wd → Option (Int × Wd)} (hov : ∀ w d, cl (ov w d) = om d (cl w)) {Q : Int → Wd → Prop} (hop : ∀ g, Iv n 8 (-1) g 0 → IvW g 0 → Lb g w → CT n g → Ag w 0 g 0 → ∃ r g' u', cl g = some (r, g') ∧ Act n g w r g' u' ∧ Q r u') : ∃ r u' w2, (bd (X2_draft 0 u') fun _ w2 => bd (cl w2) fun r6 w7 => bd (X7_recorded r6 w7) fun r11 w12 => some (r11, w12)) = some (r, w2) ∧ Q r u' ∧ InR r ∧ (r < 0 → SK n w2) ∧ (0 ≤ r → SK (n + 1) w2) ∧ ∀ c i, 30 ≤ c → w2 c 0 i = u' c 0 i := by
  obtain ⟨⟨hI, hW, h0, h1, h17⟩, hL, hC⟩ := hS
  obtain ⟨w1, d1, d2⟩ := draft_K hI.A.2.2.1 h0 h1
  have a1 : Ag w 0 w1 0 := Ag.of (fun c hc i => d2 c 0 i (by unfold sl; omega))
  have f1 : ∀ c t i, 10 ≤ c → w1 c t i = w c t i := fun c t i hc => d2 c t i (by omega)
  have hI1 := hI.cg a1
  have hW1 := hW.cg a1
  have hL1 : Lb w1 w := hL.cg hI a1 (fun _ _ _ => rfl)
  have hC1 := hC.cg a1
  obtain ⟨r, g', u', c1, ⟨c2, c3⟩, c4⟩ := hop w1 hI1 hW1 hL1 hC1 a1
  have lift : ∀ w2, (bd (X2_draft 0 w) fun _ w2 => bd (cl w2) fun r6 w7 => bd (X7_recorded r6 w7) fun r11 w12 => some (r11, w12)) = some (r, w2) → (FU w u') → (bd (X2_draft 0 u') fun _ w2 => bd (cl w2) fun r6 w7 => bd (X7_recorded r6 w7) fun r11 w12 => some (r11, w12)) = some (r, ov w2 u') := fun w2 hw hF => by
    have e : u' = ov w u' := by
      funext c t i
      unfold ov
      by_cases h : c < 30
      · rw [if_pos h, hF c t i h]
      · rw [if_neg h]
    have k : (bd (X2_draft 0 (ov w u')) fun _ w2 => bd (cl w2) fun r6 w7 => bd (X7_recorded r6 w7) fun r11 w12 => some (r11, w12)) = om u' (bd (X2_draft 0 w) fun _ w2 => bd (cl w2) fun r6 w7 => bd (X7_recorded r6 w7) fun r11 w12 => some (r11, w12)) := by
      simp only [om_X2_draft, hov, om_X7_recorded, bd_om, om_bd, om_some]
    rw [hw] at k
    rw [← e] at k
    exact k
  rcases c3 with ⟨n1, n2, n3⟩ | ⟨n1, n2, n3, n4, n5, n6, d, n7, n8⟩
  · subst n2 n3
    have hw : (bd (X2_draft 0 u') fun _ w2 => bd (cl w2) fun r6 w7 => bd (X7_recorded r6 w7) fun r11 w12 => some (r11, w12)) = some (r, g') := by
      rw [d1, bd_t, c1, bd_t]
      unfold X7_recorded
      rw [if_pos n1, bd_t]
    refine ⟨r, u', g', hw, c4, c2, fun _ => ⟨⟨hI1, hW1, ?_, ?_, ?_⟩, hL1.cg hI1 Ag.rf (fun c i h => f1 c 0 i (by omega)), hC1⟩, fun q => by omega, fun c i h => f1 c 0 i (by omega)⟩
    · rw [f1 11 0 0 (by decide)]; exact h0
    · rw [f1 11 0 1 (by decide)]; exact h1
    · rw [f1 17 0 0 (by decide)]; exact h17
  · have e : ∀ c t i, 10 ≤ c → g' c t i = w c t i := fun c t i hc => (n4 c t i (by omega)).trans (f1 c t i hc)
    have hk := keep_e (w := g') (by rw [e 11 0 0 (by decide)]; exact h0) (by rw [e 11 0 1 (by decide)]; exact h1)
    have hw : (bd (X2_draft 0 w) fun _ w2 => bd (cl w2) fun r6 w7 => bd (X7_recorded r6 w7) fun r11 w12 => some (r11, w12)) = some (r, kpW g') := by
      rw [d1, bd_t, c1, bd_t]
      unfold X7_recorded
      rw [if_neg (by omega), hk, bd_t]
      rfl
    have a2 : Ag g' 0 (ov (kpW g') u') 0 := Ag.of (fun c hc i => by rw [ov_rd (by omega), kpW_c (by omega)])
    have e11 : ∀ i, (ov (kpW g') u') 11 0 i = kpW g' 11 0 i := fun i => ov_rd (by decide)
    have hk0 : (0 ≤ kpW g' 11 0 0 ∧ kpW g' 11 0 0 < 6) ∧ 0 ≤ kpW g' 11 0 1 ∧ kpW g' 11 0 1 ≤ 5 := by
      have e0 := e 11 0 0 (by decide)
      have e1 := e 11 0 1 (by decide)
      unfold kpW
      by_cases h5 : g' 11 0 1 < 5
      · rw [if_pos h5, up_n (by decide), up_h rfl]
        omega
      · rw [if_neg h5, up_h rfl, up_n (by decide)]
        omega
    refine ⟨r, u', ov (kpW g') u', lift _ hw n5, c4, c2, fun q => by omega, fun _ => ⟨⟨n2.cg a2, n3.cg a2, ?_, ?_, ?_⟩, n6.cg n2 a2 (fun c i h => ?_), (hC1.cn n7 n8).cg a2⟩, fun c i h => ?_⟩
    · rw [e11]; exact hk0.1
    · rw [e11]; exact hk0.2
    · rw [ov_rd (by decide), kpW_c (by decide), e 17 0 0 (by decide)]; exact h17
    · unfold ov
      rw [if_neg (by omega)]
    · unfold ov
      rw [if_neg (by omega)]
theorem SK.heavy (hS : SK n w) : w 30 0 1 = w 0 0 0 := hS.2.1.1.2.1
/-! way by way -/
/-- one act: it says yes, and all holds again -/
def AK (n : Int) (x : Option (Int × Wd)) : Prop := ∃ w2, x = some (1, w2) ∧ SK (n + 1) w2
theorem AK.of {x : Option (Int × Wd)} {r : Int} {w2 : Wd} (h : x = some (1, w2)) (h1 : r < 0 → SK n w2) (h2 : 0 ≤ r → SK (n + 1) w2) : AK n x := ⟨w2, h, by
  by_cases q : r < 0
  · exact (h1 q).mono
  · exact h2 (by omega)⟩
theorem make_K (hS : SK n w) (hn : 0 ≤ n ∧ n ≤ 66) {v : Int} (hv : 0 ≤ v ∧ v ≤ 2147483647) : AK n (L_makes v w) := by
  have key : ∀ (s : Int) (h : Nat), 1 ≤ s ∧ s ≤ 12 → h < 8 → v / 60 % 8 = h → AK n (L_makes_b27 v s w) := by
    intro s h hs hh eh
    have hrun : L_makes_b27 v s w = L_makes_b52 s h (if s < w 0 0 0 then 0 else 1) w := by
      unfold L_makes_b27
      rw [gd_t hv.1, gd_t (by omega), eh, hS.heavy]
      by_cases q : s < w 0 0 0
      · rw [if_pos q, if_pos q]
      · rw [if_neg q, if_neg q]
    rw [hrun]
    obtain ⟨r, u', w2, o1, o2, o3, o4, o5, o6⟩ := op_K hS hn.1 (cl := X5_makeThing 0 s h) (om_X5_makeThing 0 s h) (Q := fun r u' => (r = -3 ∧ L_makes_b52 s h (if s < w 0 0 0 then 0 else 1) w = L_makes_b108 s h u') ∨ (∃ u1, r = u1 30 0 0 ∧ (0 ≤ r ∧ r < 40) ∧ u' = up u1 30 0 0 (u1 30 0 0 + 1) ∧ L_makes_b52 s h (if s < w 0 0 0 then 0 else 1) w = L_makes_b194 s h u1)) (fun g hI hW hL hC hA => by
      have e0 : g 0 0 0 = w 0 0 0 := hA.r0 (by decide)
      have h40 := hI.A
      unfold IvA at h40
      rcases make_L hI hW hL hs hh with ⟨m1, m2⟩ | ⟨g', u1, m1, m2, m3, m4, m5, m6, m7, m8, m9, m10⟩
      · rw [e0] at m2
        exact ⟨-3, g, w, m1, ⟨⟨by decide, by decide⟩, Or.inl ⟨by decide, rfl, rfl⟩⟩, Or.inl ⟨rfl, m2⟩⟩
      · rw [e0] at m2
        refine ⟨g 0 0 1, g', up u1 30 0 0 (g 0 0 1 + 1), m1, ⟨⟨by omega, by omega⟩, Or.inr ⟨by omega, m3, m4, m5, m6.ups (by decide), m9, 1, Or.inr rfl, m10.cn rfl⟩⟩, Or.inr ⟨u1, m7.symm, ⟨by omega, m8⟩, by rw [m7], m2⟩⟩)
    have hX : X7_make s h u' = some (r, w2) := o1
    rcases o2 with ⟨q1, q2⟩ | ⟨u1, q1, q2, q3, q4⟩
    · rw [q2]
      unfold L_makes_b108
      rw [hX, bd_t, if_pos q1]
      exact AK.of rfl o4 o5
    · rw [q4]
      unfold L_makes_b194
      have e2 : w2 30 0 0 = r + 1 := by rw [o6 30 0 (by decide), q3, up_h rfl, q1]
      rw [gd_t ⟨by omega, by omega⟩, ← q3, hX, bd_t, e2, gd_t ⟨by omega, by omega⟩, if_pos (by omega)]
      exact AK.of rfl o4 o5
  unfold L_makes
  rw [gd_t hv.1]
  by_cases h5 : 0 < v % 5
  · rw [if_pos h5, gd_t (by omega), gd_t ⟨by omega, by omega⟩]
    exact key _ (v / 60 % 8).toNat (by omega) (by omega) (by omega)
  · rw [if_neg h5, gd_t (by omega), gd_t ⟨by omega, by omega⟩]
    exact key _ (v / 60 % 8).toNat (by omega) (by omega) (by omega)
theorem told_1 {z r : Int} {w2 : Wd} (hz : z = nn r) (hr : 0 ≤ r) : told z r w2 = some (1, w2) := by
  unfold told
  rw [hz]
  unfold nn
  by_cases h : r = 300
  · rw [if_pos h, if_pos (by decide), if_pos h]
  · rw [if_neg h, if_neg (by omega), if_pos rfl]
theorem names_K (hS : SK n w) (hn : 0 ≤ n ∧ n ≤ 66) {v : Int} (hv : 0 ≤ v ∧ v ≤ 2147483647) {y : Int} (hy : y = 0 ∨ y = 1) : AK n (L_names v y w) := by
  obtain ⟨h, eh⟩ : ∃ h : Nat, v % 8 = h := ⟨(v % 8).toNat, by omega⟩
  obtain ⟨j, ej⟩ : ∃ h : Nat, v / 8 % 2 = h := ⟨(v / 8 % 2).toNat, by omega⟩
  obtain ⟨o, eo⟩ : ∃ h : Nat, v / 16 % 8 = h := ⟨(v / 16 % 8).toNat, by omega⟩
  rcases hy with rfl | rfl
  · obtain ⟨r, u', w2, o1, o2, o3, o4, o5, o6⟩ := op_K hS hn.1 (cl := X5_followName 0 h j o) (om_X5_followName 0 h j o) (Q := fun r u' => (r = -2 ∧ L_names v 0 w = bd (X7_follow h j o u') fun r74 w75 => if r74 = (-2) then (some (1, w75)) else (some (0, w75))) ∨ (0 ≤ r ∧ u' 31 0 o = nn r ∧ L_names v 0 w = bd (X7_follow h j o u') fun r64 w65 => told (w65 31 0 o) r64 w65)) (fun g hI hW hL hC hA => follow_L hI hW hL ((hC.cap hn.2).imp (fun q => q) (fun q => by omega)) hC.2.1 hv.1 eh ej eo)
    have hX : X7_follow h j o u' = some (r, w2) := o1
    rcases o2 with ⟨q1, q2⟩ | ⟨q1, q2, q3⟩
    · rw [q2, hX, bd_t, if_pos q1]
      exact AK.of rfl o4 o5
    · rw [q3, hX, bd_t, told_1 (by rw [o6 31 o (by decide), q2]) q1]
      exact AK.of rfl o4 o5
  · obtain ⟨r, u', w2, o1, o2, o3, o4, o5, o6⟩ := op_K hS hn.1 (cl := X5_linkHooks 0 h j o) (om_X5_linkHooks 0 h j o) (Q := fun r u' => (r = -2 ∧ L_names v 1 w = bd (X7_link h j o u') fun r74 w75 => if r74 = (-2) then (some (1, w75)) else (some (0, w75))) ∨ (0 ≤ r ∧ u' 31 0 o = nn r ∧ L_names v 1 w = bd (X7_link h j o u') fun r64 w65 => told (w65 31 0 o) r64 w65)) (fun g hI hW hL hC hA => link_L hI hW hL ((hC.cap hn.2).imp (fun q => q) (fun q => by omega)) hC.2.1 hv.1 eh ej eo)
    have hX : X7_link h j o u' = some (r, w2) := o1
    rcases o2 with ⟨q1, q2⟩ | ⟨q1, q2, q3⟩
    · rw [q2, hX, bd_t, if_pos q1]
      exact AK.of rfl o4 o5
    · rw [q3, hX, bd_t, told_1 (by rw [o6 31 o (by decide), q2]) q1]
      exact AK.of rfl o4 o5
theorem drop_K (hS : SK n w) (hn : 0 ≤ n ∧ n ≤ 66) {v : Int} (hv : 0 ≤ v ∧ v ≤ 2147483647) : AK n (bd (X7_drop (v % 8) (up w 31 0 (v % 8).toNat ((-9)))) fun r91 w92 => if w 31 0 (v % 8).toNat < 0 then (if r91 = 300 then (some (1, w92)) else (some (0, w92))) else (if r91 = w 31 0 (v % 8).toNat then (some (1, w92)) else (some (0, w92)))) := by
  obtain ⟨h, eh⟩ : ∃ h : Nat, v % 8 = h := ⟨(v % 8).toNat, by omega⟩
  have hh : h < 8 := by omega
  obtain ⟨r, u', w2, o1, o2, o3, o4, o5, o6⟩ := op_K hS hn.1 (cl := X5_dropHook 0 h) (om_X5_dropHook 0 h) (Q := fun r u' => u' = up w 31 0 h (-9) ∧ w 31 0 h = nn r ∧ 0 ≤ r) (fun g hI hW hL hC hA => by
    obtain ⟨d1, d2, d3, d4⟩ := drop_L hI hW hL hh
    exact ⟨_, _, _, d1, d2, rfl, d3, by rcases d4 with q | q; omega; exact q.1⟩)
  have hX : X7_drop h u' = some (r, w2) := o1
  rw [eh, show ((h : Nat) : Int).toNat = h from rfl, ← o2.1, hX, bd_t]
  have := told_1 (w2 := w2) o2.2.1 o2.2.2
  unfold told at this
  rw [this]
  exact AK.of rfl o4 o5
theorem begin_K (hS : SK n w) (hn : 0 ≤ n ∧ n ≤ 66) : AK n (if w 30 0 2 = 1 then (bd (X7_begin w) fun r82 w83 => if r82 = (-2) then (some (1, w83)) else (some (0, w83))) else (bd (L_begins w) fun r72 w73 => bd (X7_begin w73) fun r77 w78 => if r77 = w78 30 0 8 then (some (1, w78)) else (some (0, w78)))) := by
  have e2 : w 30 0 2 = w 0 0 2 := hS.2.1.1.2.2.1
  obtain ⟨r, u', w2, o1, o2, o3, o4, o5, o6⟩ := op_K hS hn.1 (cl := X5_beginMove 0) (om_X5_beginMove 0) (Q := fun r u' => (w 0 0 2 = 1 ∧ r = -2 ∧ u' = w) ∨ (w 0 0 2 = 0 ∧ L_begins w = some (0, u') ∧ u' 30 0 8 = r)) (fun g hI hW hL hC hA => by
    have em : g 0 0 2 = w 0 0 2 := hA.r0 (by decide)
    have hA' := hI.A
    unfold IvA at hA'
    by_cases hm : g 0 0 2 = 0
    · obtain ⟨r, g', u', b1, b2, b3, b4, b5, b6, b7, b8, b9, b10, b11, b12, b13⟩ := begin_L hI hW hL hm (by omega)
      obtain ⟨q1, q2, q3, q4⟩ := b3.I.Q
      have hw0 := hW.2 hm
      have hwt : Wt g = 0 := by unfold Wt; omega
      have hr0 : 0 ≤ r ∧ r ≤ 124 := by rw [b8]; unfold Wt; omega
      exact ⟨r, g', u', b1, ⟨⟨by omega, by omega⟩, Or.inr ⟨by omega, b3.I, b4, b6, b7, b5, 0, Or.inl rfl, ⟨by omega, fun _ => b10, by omega, by omega⟩⟩⟩, Or.inr ⟨by omega, b2, by rw [b5.1.2.2.2.2.2.2.2.2, b8]; rfl⟩⟩
    · refine ⟨-2, g, w, ?_, ⟨⟨by decide, by decide⟩, Or.inl ⟨by decide, rfl, rfl⟩⟩, Or.inl ⟨by omega, rfl, rfl⟩⟩
      unfold X5_beginMove
      rw [if_neg hm])
  have hX : X7_begin u' = some (r, w2) := o1
  rcases o2 with ⟨q1, q2, q3⟩ | ⟨q1, q2, q3⟩
  · rw [if_pos (by omega), ← q3, hX, bd_t, if_pos q2]
    exact AK.of rfl o4 o5
  · rw [if_neg (by omega), q2, bd_t, hX, bd_t, o6 30 8 (by decide), q3, if_pos rfl]
    exact AK.of rfl o4 o5
theorem carry_K (hS : SK n w) (hn : 0 ≤ n ∧ n ≤ 66) {x : Int} (hx : 1 ≤ x ∧ x ≤ 4) : AK n (if w 30 0 2 = 0 then (bd (X7_carry x w) fun r62 w63 => if r62 = (-2) then (bd (X7_carry 0 w63) fun r67 w68 => if r67 = (-1) then (some (1, w68)) else (some (0, w68))) else (some (0, w63))) else (L_acts_b246 LF x 0 w)) := by
  have e2 : w 30 0 2 = w 0 0 2 := hS.2.1.1.2.2.1
  obtain ⟨r, u', w2, o1, o2, o3, o4, o5, o6⟩ := op_K hS hn.1 (cl := X5_carrySteps 0 x) (om_X5_carrySteps 0 x) (Q := fun r u' => (w 0 0 2 = 0 ∧ r = -2 ∧ u' = w) ∨ (w 0 0 2 = 1 ∧ L_acts_b246 LF x 0 w = L_acts_b279 x r u')) (fun g hI hW hL hC hA => by
    have em : g 0 0 2 = w 0 0 2 := hA.r0 (by decide)
    have hA' := hI.A
    unfold IvA at hA'
    by_cases hm : g 0 0 2 = 0
    · refine ⟨-2, g, w, ?_, ⟨⟨by decide, by decide⟩, Or.inl ⟨by decide, rfl, rfl⟩⟩, Or.inl ⟨by omega, rfl, rfl⟩⟩
      unfold X5_carrySteps
      rw [if_neg (by omega), if_neg (by omega), if_pos hm]
    · obtain ⟨r, g', u', b1, b2, b3, b4, b5, b6, b7, b8, b9⟩ := carry_L (B := n) (by omega) (x1 := x) (by omega) LF LF 0 g w (Or.inl ⟨by omega, hI⟩) hW hL (by omega) (by rw [show LF = 10000 from rfl]; omega) (by rw [show LF = 10000 from rfl]; omega) ((hC.cap hn.2).imp (fun q => q) (fun q => by omega)) hC.2.1
      refine ⟨r, g', u', ?_, ⟨⟨by omega, by omega⟩, Or.inr ⟨b8.1, b3.I, b4, b6, b7, b5, 0, Or.inl rfl, b9.cn (by omega)⟩⟩, Or.inr ⟨by omega, b2⟩⟩
      unfold X5_carrySteps X5_stepsUpTo
      rw [if_neg (by omega), if_neg (by omega), if_neg hm, b1, bd_t])
  have hX : X7_carry x u' = some (r, w2) := o1
  rcases o2 with ⟨q1, q2, q3⟩ | ⟨q1, q2⟩
  · have hS2 := o4 (by omega)
    obtain ⟨r', u'', w3, p1, p2, p3, p4, p5, p6⟩ := op_K hS2 hn.1 (cl := X5_carrySteps 0 0) (om_X5_carrySteps 0 0) (Q := fun r u' => r = -1 ∧ u' = w2) (fun g hI hW hL hC hA => ⟨-1, g, w2, by unfold X5_carrySteps; rw [if_pos (by decide)], ⟨⟨by decide, by decide⟩, Or.inl ⟨by decide, rfl, rfl⟩⟩, rfl, rfl⟩)
    have hX2 : X7_carry 0 u'' = some (r', w3) := p1
    rw [if_pos (by omega), ← q3, hX, bd_t, if_pos q2, ← p2.2, hX2, bd_t, if_pos p2.1]
    exact AK.of rfl p4 p5
  · rw [if_neg (by omega), q2]
    unfold L_acts_b279
    rw [hX, bd_t, if_pos rfl]
    exact AK.of rfl o4 o5
theorem heavy_K (hS : SK n w) (hn : 0 ≤ n ∧ n ≤ 66) {x : Int} (hx : 2 ≤ x ∧ x ≤ 13) : AK n (bd (X7_setHeavy ((up w 30 0 1 x) 30 0 1) (up w 30 0 1 x)) fun r41 w42 => if r41 = w 30 0 1 then (some (1, w42)) else (some (0, w42))) := by
  obtain ⟨r, u', w2, o1, o2, o3, o4, o5, o6⟩ := op_K hS hn.1 (cl := X5_changeBound 0 x) (om_X5_changeBound 0 x) (Q := fun r u' => u' = up w 30 0 1 x ∧ r = w 30 0 1) (fun g hI hW hL hC hA => by
    obtain ⟨d1, d2⟩ := heavy_L hI hW hL hx
    exact ⟨_, _, _, d1, d2, rfl, hL.1.2.1.symm⟩)
  have hX : X7_setHeavy x u' = some (r, w2) := o1
  rw [up_h rfl, ← o2.1, hX, bd_t, if_pos o2.2]
  exact AK.of rfl o4 o5
theorem last_K (hS : SK n w) (hn : 0 ≤ n ∧ n ≤ 66) {y x : Int} (hx : (w 30 0 0 = 0) ∨ (0 ≤ x ∧ x < w 30 0 0)) : AK n (L_acts_b352 y x w) := by
  have e0 : w 30 0 0 = w 0 0 1 := hS.2.1.1.1
  unfold L_acts_b352
  by_cases h0 : w 30 0 0 = 0
  · rw [if_pos h0]
    obtain ⟨r, u', w2, o1, o2, o3, o4, o5, o6⟩ := op_K hS hn.1 (cl := X5_loseNote 0 0) (om_X5_loseNote 0 0) (Q := fun r u' => r = -1 ∧ u' = w) (fun g hI hW hL hC hA => ⟨-1, g, w, by
      have em : g 0 0 1 = w 0 0 1 := hA.r0 (by decide)
      unfold X5_loseNote; rw [isThing_e, if_neg (by omega), bd_t, if_pos rfl], ⟨⟨by decide, by decide⟩, Or.inl ⟨by decide, rfl, rfl⟩⟩, rfl, rfl⟩)
    have hX : X7_lose 0 u' = some (r, w2) := o1
    have hS2 := o4 (by omega)
    have e2 : w2 0 0 1 = 0 := by rw [← hS2.2.1.1.1, o6 30 0 (by decide), o2.2]; exact h0
    obtain ⟨r', u'', w3, p1, p2, p3, p4, p5, p6⟩ := op_K hS2 hn.1 (cl := X5_mendTwins 0 0) (om_X5_mendTwins 0 0) (Q := fun r u' => r = -1 ∧ u' = w2) (fun g hI hW hL hC hA => ⟨-1, g, w2, by
      have em : g 0 0 1 = w2 0 0 1 := hA.r0 (by decide)
      unfold X5_mendTwins; rw [isThing_e, if_neg (by omega), bd_t, if_pos rfl], ⟨⟨by decide, by decide⟩, Or.inl ⟨by decide, rfl, rfl⟩⟩, rfl, rfl⟩)
    have hX2 : X7_mend 0 u'' = some (r', w3) := p1
    rw [← o2.2, hX, bd_t, if_pos o2.1, ← p2.2, hX2, bd_t, if_pos p2.1]
    exact AK.of rfl p4 p5
  · have hx := hx.resolve_left h0
    rw [if_neg h0]
    by_cases h26 : y < 26
    · rw [if_pos h26]
      obtain ⟨r, u', w2, o1, o2, o3, o4, o5, o6⟩ := op_K hS hn.1 (cl := X5_loseNote 0 x) (om_X5_loseNote 0 x) (Q := fun r u' => L_loses x w = bd (X7_lose x u') fun r20 w21 => if r20 = r then some (1, w21) else some (0, w21)) (fun g hI hW hL hC hA => lose_L hI hW hL (by omega) (by have em : g 0 0 1 = w 0 0 1 := hA.r0 (by decide); omega))
      have hX : X7_lose x u' = some (r, w2) := o1
      rw [o2, hX, bd_t, if_pos rfl, bd_t, gd_t (Or.inr rfl)]
      exact AK.of rfl o4 o5
    · rw [if_neg h26]
      obtain ⟨r, u', w2, o1, o2, o3, o4, o5, o6⟩ := op_K hS hn.1 (cl := X5_mendTwins 0 x) (om_X5_mendTwins 0 x) (Q := fun r u' => L_mends x w = bd (X7_mend x u') fun r20 w21 => if r20 = r then some (1, w21) else some (0, w21)) (fun g hI hW hL hC hA => mend_L hI hW hL (by have em : g 0 0 1 = w 0 0 1 := hA.r0 (by decide); omega))
      have hX : X7_mend x u' = some (r, w2) := o1
      rw [o2, hX, bd_t, if_pos rfl, bd_t, gd_t (Or.inr rfl)]
      exact AK.of rfl o4 o5
theorem andI_nn (x : Int) : 0 ≤ andI x 2147483647 ∧ andI x 2147483647 ≤ 2147483647 := by
  unfold andI
  have h := pk_and (Int32.ofInt x) (m := Int32.ofInt 2147483647) 31 (by decide)
  have hm : (Int32.ofInt x).toBitVec.toNat % 2 ^ 31 < 2 ^ 31 := Nat.mod_lt _ (by decide)
  rw [h, nI_toInt hm]
  omega
theorem low_e {x m : Int} (hm : 0 < m ∧ m ≤ 2147483647) : L_low x m w = some (andI x 2147483647 % m, w) := by
  unfold L_low
  rw [gd_t ⟨(andI_nn x).1, hm.1⟩]
theorem acts_K (hS : SK n w) (hn : 0 ≤ n ∧ n ≤ 66) (x : Int) : AK n (L_acts x w) := by
  obtain ⟨v, hv⟩ : ∃ v : Int, v = andI (shrI x 5) 2147483647 % 10000000 := ⟨_, rfl⟩
  obtain ⟨y, hy⟩ : ∃ y : Int, y = andI x 2147483647 % 27 := ⟨_, rfl⟩
  have hvb : 0 ≤ v ∧ v ≤ 2147483647 := by omega
  have hyb : 0 ≤ y ∧ y < 27 := by omega
  have fin : ∀ {z : Option (Int × Wd)}, AK n z → AK n (bd z fun r w => gd (r = 0 ∨ r = 1) (some (r, w))) := fun ⟨w2, h1, h2⟩ => ⟨w2, by rw [h1, bd_t, gd_t (Or.inr rfl)], h2⟩
  unfold L_acts
  rw [low_e (by decide), bd_t, low_e (by decide), bd_t, ← hv, ← hy]
  by_cases h1 : y < 8
  · rw [if_pos h1]
    exact fin (make_K hS hn hvb)
  rw [if_neg h1]
  by_cases h2 : y < 16
  · rw [if_pos h2]
    by_cases h3 : y < 13
    · rw [if_pos h3]
      exact fin (names_K hS hn hvb (Or.inr rfl))
    · rw [if_neg h3]
      exact fin (names_K hS hn hvb (Or.inl rfl))
  rw [if_neg h2]
  by_cases h3 : y < 18
  · rw [if_pos h3, gd_t hvb.1, gd_t ⟨by omega, by omega⟩]
    exact drop_K hS hn hvb
  rw [if_neg h3]
  by_cases h4 : y < 20
  · rw [if_pos h4]
    exact begin_K hS hn
  rw [if_neg h4]
  by_cases h5 : y < 23
  · rw [if_pos h5, gd_t hvb.1, gd_t ⟨by omega, by omega⟩]
    exact carry_K hS hn (by omega)
  rw [if_neg h5]
  by_cases h6 : y = 23
  · rw [if_pos h6, gd_t hvb.1, gd_t ⟨by omega, by omega⟩]
    exact heavy_K hS hn (by omega)
  rw [if_neg h6]
  by_cases h7 : w 30 0 0 = 0
  · rw [if_pos h7]
    exact last_K hS hn (Or.inl h7)
  · have e0 : w 30 0 0 = w 0 0 1 := hS.2.1.1.1
    have hA := hS.1.1.A
    unfold IvA at hA
    have hp : 0 < w 30 0 0 := by omega
    rw [if_neg h7, gd_t ⟨hvb.1, hp⟩]
    exact last_K hS hn (Or.inr ⟨Int.emod_nonneg _ h7, Int.emod_lt_of_pos _ hp⟩)
end AC
