/-! THE LAW: its loop -/
set_option maxHeartbeats 4000000 in
set_option maxRecDepth 100000 in
theorem law_loop {p : Program} {l : Launch} {e : Env} {s : State} {m : MethodId} {below : List Frame} {meth : Method} {c : Code} {g : sn_G} {tb : Nat → sn_K} {b L : Nat} {xs : Nat → Int32} (C : lc_C p l s m meth c g tb b L xs) (hL : L ≤ 2048) (hr : meth.sig.returnType = ret) (hlk : meth.locks = false) : ∀ (f j : Nat) (st : sn_S) (H : Heap) (locs : List Loc) (ls : Array Slot), L + 4 ≤ j + f → j ≤ 4096 → Ri st → lc_X s g tb st H locs → lv_has ls 4 [(0, .ref b), (1, .ref (g.2.2.2 0)), (2, .ref (g.2.2.2 73)), (3, .int (nI j))] → lc_W p l e s m below meth c b H locs (F0 m 18 ls []) := fun f => by
  obtain ⟨⟨hx, hb, hml, hown, hts⟩, hC, hi, hA, hT5, hT6, hX, hbl⟩ := id C
  have hbA : ¬ (fun q : Nat => s.heap.size ≤ q) b := Nat.not_le.mpr hbl
  induction f with
  | zero =>
    intro j st H locs ls hf hj hR X hl
    refine lv_iload_n hx hb dL_law_18 rfl (lv_at hl 3 rfl) ?_
    refine lv_aload_n hx hb dL_law_19 rfl (lv_at hl 0 rfl) ?_
    refine va_slen hx hb hX hbl hbA X.2 dL_law_20 ?_
    refine lv_iconst (v := (4 : Int32)) hx hb dL_law_21 (by decide) ?_
    refine lv_isub hx hb dL_law_22 ?_
    refine lv_icmp_gt (tgt := 776) hx hb dL_law_23 (by decide) (fun _ => ?_) (fun hc => ?_)
    · refine lv_iconst (v := (1 : Int32)) hx hb dL_law_776 (by decide) ?_
      exact va_forget X.2.2.2 (lw_ret hx hb hr hlk dL_law_777)
    · exfalso
      have hc := Int32.not_lt.mp hc
      have h2 := Int32.le_iff_toInt_le.mp hc
      rw [nI_toInt (by omega)] at h2
      have h3 : (Int32.ofNat L - 4).toInt = (L : Int) - 4 := pk_sub_toInt (a := L) (b := 4) (by omega) (by omega)
      rw [h3] at h2
      omega
  | succ f ih =>
    intro j st H locs ls hf hj hR X hl
    refine lv_iload_n hx hb dL_law_18 rfl (lv_at hl 3 rfl) ?_
    refine lv_aload_n hx hb dL_law_19 rfl (lv_at hl 0 rfl) ?_
    refine va_slen hx hb hX hbl hbA X.2 dL_law_20 ?_
    refine lv_iconst (v := (4 : Int32)) hx hb dL_law_21 (by decide) ?_
    refine lv_isub hx hb dL_law_22 ?_
    refine lv_icmp_gt (tgt := 776) hx hb dL_law_23 (by decide) (fun _ => ?_) (fun hc => ?_)
    · refine lv_iconst (v := (1 : Int32)) hx hb dL_law_776 (by decide) ?_
      exact va_forget X.2.2.2 (lw_ret hx hb hr hlk dL_law_777)
    · have hjL : j + 4 ≤ L := by
        have hc := Int32.not_lt.mp hc
        have h2 := Int32.le_iff_toInt_le.mp hc
        rw [nI_toInt (by omega)] at h2
        have h3 : (Int32.ofNat L - 4).toInt = (L : Int) - 4 := pk_sub_toInt (a := L) (b := 4) (by omega) (by omega)
        rw [h3] at h2
        omega
      have hin : ∀ d : Nat, d < 4 → vp_in (nI (j + d)) L := fun d hd => vp_in_nI (by omega) (by omega)
      have h0 : vp_in (nI j) L := hin 0 (by omega)
      have h1 : vp_in (nI j + 1) L := by rw [show nI j + 1 = nI (j + 1) from nI_add j 1]; exact hin 1 (by omega)
      have h2 : vp_in (nI j + 2) L := by rw [show nI j + 2 = nI (j + 2) from nI_add j 2]; exact hin 2 (by omega)
      have h3 : vp_in (nI j + 3) L := by rw [show nI j + 3 = nI (j + 3) from nI_add j 3]; exact hin 3 (by omega)
      have K : lc_K p l e s m below meth c g tb b (nI j) := fun st H locs ls hR X hl => by
        refine lv_iinc (v := nI (j + 4)) (lv' := [(3, .int (nI (j + 4))), (0, .ref b), (1, .ref (g.2.2.2 0)), (2, .ref (g.2.2.2 73))]) hx hb dL_law_770 hl (k := 3) rfl (by rw [← nI_add j 4]; rfl) (by decide) rfl (fun ls hl => ?_)
        refine lv_goto (tgt := 18) hx hb dL_law_773 (by decide) ?_
        exact ih (j + 4) st H locs ls (by omega) (by omega) hR X (lv_sub hl [1, 2, 3, 0] rfl)
      refine lv_aload_n hx hb dL_law_26 rfl (lv_at hl 0 rfl) ?_
      refine lv_iload_n hx hb dL_law_27 rfl (lv_at hl 3 rfl) ?_
      refine lc_ld C X h0 dL_law_28 ?_
      refine lv_bipush (v := (31 : Int32)) hx hb dL_law_29 (by decide) ?_
      refine lv_iand hx hb dL_law_31 ?_
      refine lv_topi (fun w _ => ?_)
      by_cases hw : w.toInt < 0 ∨ 24 < w.toInt
      · exact lv_tableOut (tgt := 770) hx hb dL_law_32 hw (by decide) (K st H locs ls hR X hl)
      · have hw1 : ¬ w.toInt < 0 := fun z => hw (Or.inl z)
        have hw2 : ¬ 24 < w.toInt := fun z => hw (Or.inr z)
        rcases (show w.toInt = 0 ∨ w.toInt = 1 ∨ w.toInt = 2 ∨ w.toInt = 3 ∨ w.toInt = 4 ∨ w.toInt = 5 ∨ w.toInt = 6 ∨ w.toInt = 7 ∨ w.toInt = 8 ∨ w.toInt = 9 ∨ w.toInt = 10 ∨ w.toInt = 11 ∨ w.toInt = 12 ∨ w.toInt = 13 ∨ w.toInt = 14 ∨ w.toInt = 15 ∨ w.toInt = 16 ∨ w.toInt = 17 ∨ w.toInt = 18 ∨ w.toInt = 19 ∨ w.toInt = 20 ∨ w.toInt = 21 ∨ w.toInt = 22 ∨ w.toInt = 23 ∨ w.toInt = 24 by omega) with hk | hk | hk | hk | hk | hk | hk | hk | hk | hk | hk | hk | hk | hk | hk | hk | hk | hk | hk | hk | hk | hk | hk | hk | hk
        · exact lv_tableIn (tgt := 148) (off := 116) hx hb dL_law_32 hw1 hw2 (by rw [hk]; rfl) (by decide) (lc_open C h1 h2 h3 K hR X hl)
        · exact lv_tableIn (tgt := 171) (off := 139) hx hb dL_law_32 hw1 hw2 (by rw [hk]; rfl) (by decide) (lc_link C h1 h2 h3 K hR X hl)
        · exact lv_tableIn (tgt := 230) (off := 198) hx hb dL_law_32 hw1 hw2 (by rw [hk]; rfl) (by decide) (lc_build C h1 h2 h3 K hR X hl)
        · exact lv_tableIn (tgt := 243) (off := 211) hx hb dL_law_32 hw1 hw2 (by rw [hk]; rfl) (by decide) (lc_value C h1 h2 h3 K hR X hl)
        · exact lv_tableIn (tgt := 276) (off := 244) hx hb dL_law_32 hw1 hw2 (by rw [hk]; rfl) (by decide) (lc_fault C h1 h2 h3 K hR X hl)
        · exact lv_tableIn (tgt := 319) (off := 287) hx hb dL_law_32 hw1 hw2 (by rw [hk]; rfl) (by decide) (lc_told C h1 h2 h3 K hR X hl)
        · exact lv_tableIn (tgt := 352) (off := 320) hx hb dL_law_32 hw1 hw2 (by rw [hk]; rfl) (by decide) (lc_seen C h1 h2 h3 K hR X hl)
        · exact lv_tableIn (tgt := 365) (off := 333) hx hb dL_law_32 hw1 hw2 (by rw [hk]; rfl) (by decide) (lc_neighbour C h1 h2 h3 K hR X hl)
        · exact lv_tableIn (tgt := 398) (off := 366) hx hb dL_law_32 hw1 hw2 (by rw [hk]; rfl) (by decide) (lc_child C h1 h2 h3 K hR X hl)
        · exact lv_tableIn (tgt := 431) (off := 399) hx hb dL_law_32 hw1 hw2 (by rw [hk]; rfl) (by decide) (lc_enabled C h1 h2 h3 K hR X hl)
        · exact lv_tableIn (tgt := 454) (off := 422) hx hb dL_law_32 hw1 hw2 (by rw [hk]; rfl) (by decide) (lc_rights C h1 h2 h3 K hR X hl)
        · exact lv_tableIn (tgt := 467) (off := 435) hx hb dL_law_32 hw1 hw2 (by rw [hk]; rfl) (by decide) (lc_holder C h1 h2 h3 K hR X hl)
        · exact lv_tableIn (tgt := 490) (off := 458) hx hb dL_law_32 hw1 hw2 (by rw [hk]; rfl) (by decide) (lc_next C h1 h2 h3 K hR X hl)
        · exact lv_tableIn (tgt := 523) (off := 491) hx hb dL_law_32 hw1 hw2 (by rw [hk]; rfl) (by decide) (lc_step C h1 h2 h3 K hR X hl)
        · exact lv_tableIn (tgt := 546) (off := 514) hx hb dL_law_32 hw1 hw2 (by rw [hk]; rfl) (by decide) (lc_run C h1 h2 h3 K hR X hl)
        · exact lv_tableIn (tgt := 579) (off := 547) hx hb dL_law_32 hw1 hw2 (by rw [hk]; rfl) (by decide) (lc_dice C h1 h2 h3 K hR X hl)
        · exact lv_tableIn (tgt := 602) (off := 570) hx hb dL_law_32 hw1 hw2 (by rw [hk]; rfl) (by decide) (lc_settle C h1 h2 h3 K hR X hl)
        · exact lv_tableIn (tgt := 635) (off := 603) hx hb dL_law_32 hw1 hw2 (by rw [hk]; rfl) (by decide) (lc_rest C h1 h2 h3 K hR X hl)
        · exact lv_tableIn (tgt := 648) (off := 616) hx hb dL_law_32 hw1 hw2 (by rw [hk]; rfl) (by decide) (lc_distance C h1 h2 h3 K hR X hl)
        · exact lv_tableIn (tgt := 671) (off := 639) hx hb dL_law_32 hw1 hw2 (by rw [hk]; rfl) (by decide) (lc_wave C h1 h2 h3 K hR X hl)
        · exact lv_tableIn (tgt := 684) (off := 652) hx hb dL_law_32 hw1 hw2 (by rw [hk]; rfl) (by decide) (lc_entries C h1 h2 h3 K hR X hl)
        · exact lv_tableIn (tgt := 707) (off := 675) hx hb dL_law_32 hw1 hw2 (by rw [hk]; rfl) (by decide) (lc_count C h1 h2 h3 K hR X hl)
        · exact lv_tableIn (tgt := 730) (off := 698) hx hb dL_law_32 hw1 hw2 (by rw [hk]; rfl) (by decide) (lc_keep C h1 h2 h3 K hR X hl)
        · exact lv_tableIn (tgt := 743) (off := 711) hx hb dL_law_32 hw1 hw2 (by rw [hk]; rfl) (by decide) (lc_back C h1 h2 h3 K hR X hl)
        · exact lv_tableIn (tgt := 756) (off := 724) hx hb dL_law_32 hw1 hw2 (by rw [hk]; rfl) (by decide) (lc_digest C h1 h2 h3 K hR X hl)
