/-! THE LAW: its loop -/
theorem law_loop {p : Program} {e : Env} {s : State} {m : MethodId} {below : List Frame} {meth : Method} {c : Code} (l : Launch) {b L : Nat} {xs : Nat → Int32} {G : GG} (hL : L ≤ 2048) (C0 : lw_At p s m meth c b L xs) (hKK : KK G s) (hnew : ∀ c t, okc c t → s.heap.size ≤ G.1 c t) :
    ∀ (n i : Nat) (w : Wd) (H : Heap) (locs : List Loc) (ls : Array Slot), L + 4 - i < n → i ≤ L + 4 → ST G s w H locs → GR (20 * i) w → lv_has ls 4 [(3, iV i), (2, .ref (G.1 21 0)), (1, .ref (G.1 10 0)), (0, .ref b)] → W p l e room_1 s m #[Value.ref b] below meth c H locs 600000 7302250 (lw_Z below #[Value.ref b] s) (F0 m 18 ls []) := by
  obtain ⟨hx, hb, hr, hml, hown, hts, hX, hbl, hlocks, hgv⟩ := id C0
  have htl : ∀ w ∈ wsL_law, w.before #[Value.ref b] s = true := fun w h => hts w (wsL_law_in w h)
  have M : MC p s m #[Value.ref b] meth c code 4 R_law wsL_law G := ⟨hx, hb, hml, hown, htl, hlocks, hKK⟩
  have hbA : ¬ GA G b := fun ⟨c, t, ok, h⟩ => by
    have := hnew c t ok
    omega
  intro n
  induction n with
  | zero => intro i w H locs ls h1; omega
  | succ n ih =>
    intro i w H locs ls h1 h2 hS hG hl
    refine lv_iload_n hx hb dL_law_18 rfl (lv_at hl 0 rfl) ?_
    refine lv_aload_n hx hb dL_law_19 rfl (lv_at hl 3 rfl) ?_
    refine va_slen hx hb hX hbl hbA hS.2 dL_law_20 ?_
    refine lv_iconst (v := 4) hx hb dL_law_21 (by decide) ?_
    refine lv_isub hx hb dL_law_22 ?_
    have e4 : Int32.ofNat L - 4 = Int32.ofInt ((L : Int) - 4) := by rw [Int32.ofInt_sub]; rfl
    rw [e4]
    refine lv_icmp_gt (tgt := 621) hx hb dL_law_23 (by decide) (fun _ => ?_) (fun h => ?_)
    · refine va_forget (fun q hq => ?_) ?_
      · obtain ⟨c', t', ok, h⟩ := hS.2.2.2 q hq
        rw [h]
        exact hnew c' t' ok
      · refine lv_iconst (v := 1) hx hb dL_law_621 (by decide) ?_
        exact lw_ret hx hb hr hlocks dL_law_622
    · have hi : i + 4 ≤ L := by
        have hle : ¬ ((L : Int) - 4 < i) := fun q => h ((o_lt ⟨by omega, by omega⟩ ⟨by omega, by omega⟩).mpr q)
        omega
      have kk : ∀ (w' : Wd) (H' : Heap) (locs' : List Loc), ST G s w' H' locs' → GR (20 * i + 80) w' → W p l e room_1 s m #[Value.ref b] below meth c H' locs' 600000 7302250 (lw_Z below #[Value.ref b] s) (F0 m 615 ls []) := by
        intro w' H' locs' hS' hG'
        refine lv_iinc (v := Int32.ofInt ((i + 4 : Nat) : Int)) hx hb dL_law_615 hl (k := 0) rfl ?_ (by decide) rfl (fun ls hl => ?_)
        · rw [← Int32.ofInt_add]
          rfl
        refine lv_goto (tgt := 18) hx hb dL_law_618 (by decide) ?_
        exact ih (i + 4) w' H' locs' ls (by omega) (by omega) hS' (by rw [show 20 * ((i + 4 : Nat) : Int) = 20 * (i : Int) + 80 by omega]; exact hG') (lv_sub hl [0, 1, 2, 3] rfl)
      refine lv_aload_n hx hb dL_law_26 rfl (lv_at hl 3 rfl) ?_
      refine lv_iload_n hx hb dL_law_27 rfl (lv_at hl 0 rfl) ?_
      refine va_sld hx hb hX hbl hbA hS.2 (o_in (i := (i : Int)) (n := L) ⟨by omega, by omega⟩ (by omega)) dL_law_28 ?_
      refine lv_bipush (v := 31) hx hb dL_law_29 (by decide) ?_
      refine lv_iand hx hb dL_law_31 ?_
      obtain ⟨z, hz⟩ : ∃ z : Int, z = (xs (Int32.ofInt (i : Int)).toNatClampNeg &&& 31).toInt := ⟨_, rfl⟩
      have hzr : InR z := by rw [hz]; exact o_inr _
      have ez : xs (Int32.ofInt (i : Int)).toNatClampNeg &&& 31 = Int32.ofInt z := by rw [hz, o_of]
      rw [ez]
      have hB : 0 ≤ 20 * (i : Int) ∧ 20 * (i : Int) ≤ 999000 := by omega
      by_cases hd : z < 0 ∨ 20 < z
      · refine x_table (tgt := 615) M hzr dL_law_32 (by decide) (by unfold tsel; rw [if_pos hd]; decide) ?_
        exact kk w H locs hS (hG.mono (by omega))
      rcases (show z = 0 ∨ z = 1 ∨ z = 2 ∨ z = 3 ∨ z = 4 ∨ z = 5 ∨ z = 6 ∨ z = 7 ∨ z = 8 ∨ z = 9 ∨ z = 10 ∨ z = 11 ∨ z = 12 ∨ z = 13 ∨ z = 14 ∨ z = 15 ∨ z = 16 ∨ z = 17 ∨ z = 18 ∨ z = 19 ∨ z = 20 by omega) with e | e | e | e | e | e | e | e | e | e | e | e | e | e | e | e | e | e | e | e | e
      · refine x_table (tgt := 132) M hzr dL_law_32 (by decide) (by rw [e]; decide) ?_
        exact case_setHeavy M hl hS hG hB hX hbl hbA hi hL kk
      · refine x_table (tgt := 155) M hzr dL_law_32 (by decide) (by rw [e]; decide) ?_
        exact case_make M hl hS hG hB hX hbl hbA hi hL kk
      · refine x_table (tgt := 188) M hzr dL_law_32 (by decide) (by rw [e]; decide) ?_
        exact case_link M hl hS hG hB hX hbl hbA hi hL kk
      · refine x_table (tgt := 231) M hzr dL_law_32 (by decide) (by rw [e]; decide) ?_
        exact case_follow M hl hS hG hB hX hbl hbA hi hL kk
      · refine x_table (tgt := 274) M hzr dL_law_32 (by decide) (by rw [e]; decide) ?_
        exact case_drop M hl hS hG hB hX hbl hbA hi hL kk
      · refine x_table (tgt := 297) M hzr dL_law_32 (by decide) (by rw [e]; decide) ?_
        exact case_begin M hl hS hG hB hX hbl hbA hi hL kk
      · refine x_table (tgt := 310) M hzr dL_law_32 (by decide) (by rw [e]; decide) ?_
        exact case_carry M hl hS hG hB hX hbl hbA hi hL kk
      · refine x_table (tgt := 333) M hzr dL_law_32 (by decide) (by rw [e]; decide) ?_
        exact case_lose M hl hS hG hB hX hbl hbA hi hL kk
      · refine x_table (tgt := 356) M hzr dL_law_32 (by decide) (by rw [e]; decide) ?_
        exact case_mend M hl hS hG hB hX hbl hbA hi hL kk
      · refine x_table (tgt := 379) M hzr dL_law_32 (by decide) (by rw [e]; decide) ?_
        exact case_undo M hl hS hG hB hX hbl hbA hi hL kk
      · refine x_table (tgt := 392) M hzr dL_law_32 (by decide) (by rw [e]; decide) ?_
        exact case_append M hl hS hG hB hX hbl hbA hi hL kk
      · refine x_table (tgt := 415) M hzr dL_law_32 (by decide) (by rw [e]; decide) ?_
        exact case_clearText M hl hS hG hB hX hbl hbA hi hL kk
      · refine x_table (tgt := 428) M hzr dL_law_32 (by decide) (by rw [e]; decide) ?_
        exact case_run M hl hS hG hB hX hbl hbA hi hL kk
      · refine x_table (tgt := 441) M hzr dL_law_32 (by decide) (by rw [e]; decide) ?_
        exact case_count M hl hS hG hB hX hbl hbA hi hL kk
      · refine x_table (tgt := 464) M hzr dL_law_32 (by decide) (by rw [e]; decide) ?_
        exact case_hook M hl hS hG hB hX hbl hbA hi hL kk
      · refine x_table (tgt := 487) M hzr dL_law_32 (by decide) (by rw [e]; decide) ?_
        exact case_copy M hl hS hG hB hX hbl hbA hi hL kk
      · refine x_table (tgt := 520) M hzr dL_law_32 (by decide) (by rw [e]; decide) ?_
        exact case_where M hl hS hG hB hX hbl hbA hi hL kk
      · refine x_table (tgt := 553) M hzr dL_law_32 (by decide) (by rw [e]; decide) ?_
        exact case_named M hl hS hG hB hX hbl hbA hi hL kk
      · refine x_table (tgt := 576) M hzr dL_law_32 (by decide) (by rw [e]; decide) ?_
        exact case_garbage M hl hS hG hB hX hbl hbA hi hL kk
      · refine x_table (tgt := 589) M hzr dL_law_32 (by decide) (by rw [e]; decide) ?_
        exact case_stepsLeft M hl hS hG hB hX hbl hbA hi hL kk
      · refine x_table (tgt := 602) M hzr dL_law_32 (by decide) (by rw [e]; decide) ?_
        exact case_freeThen M hl hS hG hB hX hbl hbA hi hL kk
