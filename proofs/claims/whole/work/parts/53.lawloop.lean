/-- what the calls owe: from memories that agree (R), each call answers alike on both sides, and they agree behind it -/
def LawOK (R : jM → jM → Prop) : Prop := ∀ (IX IM : jM) (a1 a2 a3 : Int32), R IX IM → lawN_0 R IX IM a1 a2 a3 ∧ lawN_1 R IX IM a1 a2 a3 ∧ lawN_2 R IX IM a1 a2 a3 ∧ lawN_3 R IX IM a1 a2 a3 ∧ lawN_4 R IX IM a1 a2 a3 ∧ lawN_5 R IX IM a1 a2 a3 ∧ lawN_6 R IX IM a1 a2 a3 ∧ lawN_7 R IX IM a1 a2 a3 ∧ lawN_8 R IX IM a1 a2 a3 ∧ lawN_9 R IX IM a1 a2 a3 ∧ lawN_10 R IX IM a1 a2 a3 ∧ lawN_11 R IX IM a1 a2 a3 ∧ lawN_12 R IX IM a1 a2 a3 ∧ lawN_13 R IX IM a1 a2 a3 ∧ lawN_14 R IX IM a1 a2 a3 ∧ lawN_15 R IX IM a1 a2 a3 ∧ lawN_16 R IX IM a1 a2 a3 ∧ lawN_17 R IX IM a1 a2 a3 ∧ lawN_18 R IX IM a1 a2 a3 ∧ lawN_19 R IX IM a1 a2 a3 ∧ lawN_20 R IX IM a1 a2 a3 ∧ lawN_21 R IX IM a1 a2 a3 ∧ lawN_22 R IX IM a1 a2 a3 ∧ lawN_23 R IX IM a1 a2 a3 ∧ lawN_24 R IX IM a1 a2 a3 ∧ lawN_25 R IX IM a1 a2 a3 ∧ lawN_26 R IX IM a1 a2 a3 ∧ lawN_27 R IX IM a1 a2 a3 ∧ lawN_28 R IX IM a1 a2 a3
set_option maxRecDepth 100000 in
set_option maxHeartbeats 8000000 in
/-- THE LAW'S LOOP, at its head, i ints read -/
theorem law_loop {Z : jZ} {Y : lY} {b L : Nat} {xs : Nat → Int32} {kc ks : Nat} {Q : State → Prop} {R : jM → jM → Prop} (C : lC Z Y b L xs) (hL : L ≤ 2048) (hcs : kc ≤ 600000 ∧ ks ≤ 7302249) (hR : LawOK R)
    (hend : ∀ (x3 : Int32) (IX IM : jM), lJ Z Y kc ks Q 893 [(0, .ref b), (1, .ref (Y.2.2 0)), (2, .ref (Y.2.2 100)), (3, .int x3)] [] IX IM) :
    ∀ (n i : Nat) (x3 : Int32), L + 4 ≤ i + n → i ≤ L → x3 = nI i → ∀ IX IM, R IX IM → lJ Z Y kc ks Q 18 [(0, .ref b), (1, .ref (Y.2.2 0)), (2, .ref (Y.2.2 100)), (3, .int x3)] [] IX IM := by
  intro n
  induction n with
  | zero => intro i x3 h1 h2; exact absurd h1 (by omega)
  | succ n ih =>
    intro i x3 hin hi ex IX IM hr
    refine l_iload_n C d_LW_18 rfl 3 rfl ?_
    refine l_aload_n C d_LW_19 rfl 0 rfl ?_
    refine l_slen C d_LW_20 ?_
    refine l_iconst C d_LW_21 ic_4 ?_
    refine l_isub C d_LW_22 ?_
    refine l_icmp_gt C d_LW_23 (tgt := 893) (by decide) (fun c23 => ?_) (fun c23 => ?_)
    · exact hend x3 IX IM
    · have hlt : i + 4 ≤ L := by
        apply Nat.le_of_not_lt
        intro hc
        apply c23
        rw [Int32.lt_iff_toInt_lt, ex, nI_toInt (by omega), show (4 : Int32) = nI 4 from rfl, pk_sub_toInt (by omega) (by omega)]
        omega
      have e0 : x3.toNatClampNeg = i := by rw [ex]; exact nI_clamp (by omega)
      have q0 : vp_in x3 L := by rw [ex]; exact vp_in_nI (by omega) (by omega)
      have q1 : vp_in (x3 + (1 : Int32)) L := by rw [ex, show (1 : Int32) = nI 1 from rfl, nI_add]; exact vp_in_nI (by omega) (by omega)
      have q2 : vp_in (x3 + (2 : Int32)) L := by rw [ex, show (2 : Int32) = nI 2 from rfl, nI_add]; exact vp_in_nI (by omega) (by omega)
      have q3 : vp_in (x3 + (3 : Int32)) L := by rw [ex, show (3 : Int32) = nI 3 from rfl, nI_add]; exact vp_in_nI (by omega) (by omega)
      have hgo : ∀ IX2 IM2, R IX2 IM2 → lJ Z Y kc ks Q 887 [(0, .ref b), (1, .ref (Y.2.2 0)), (2, .ref (Y.2.2 100)), (3, .int x3)] [] IX2 IM2 := by
        intro IX2 IM2 hr2
        refine l_iinc C d_LW_887 3 rfl (v := x3 + 4) rfl (by decide) (lv' := [(3, .int (x3 + 4)), (0, .ref b), (1, .ref (Y.2.2 0)), (2, .ref (Y.2.2 100))]) rfl ?_
        refine l_goto C d_LW_890 (tgt := 18) (by decide) ?_
        refine l_lv [1, 2, 3, 0] rfl ?_
        exact ih (i + 4) (x3 + 4) (by omega) (by omega) (by rw [ex, show (4 : Int32) = nI 4 from rfl, nI_add]) IX2 IM2 hr2
      have H := hR IX IM (xs (x3 + (1 : Int32)).toNatClampNeg) (xs (x3 + (2 : Int32)).toNatClampNeg) (xs (x3 + (3 : Int32)).toNatClampNeg) hr
      refine l_aload_n C d_LW_26 rfl 0 rfl ?_
      refine l_iload_n C d_LW_27 rfl 3 rfl ?_
      refine l_sld C q0 d_LW_28 ?_
      refine l_bipush C d_LW_29 ib_31 ?_
      refine l_iand C d_LW_31 ?_
      generalize (xs x3.toNatClampNeg &&& 31) = z
      by_cases c0 : z = 0
      · exact l_tableIn C d_LW_32 (off := 132) (tgt := 164) (by rw [c0]; decide) (by rw [c0]; decide) (by rw [c0]; rfl) (by decide) (lawcase_0 C hcs q1 q2 q3 (H.1) hgo)
      by_cases c1 : z = 1
      · exact l_tableIn C d_LW_32 (off := 165) (tgt := 197) (by rw [c1]; decide) (by rw [c1]; decide) (by rw [c1]; rfl) (by decide) (lawcase_1 C hcs q1 q2 q3 (H.2.1) hgo)
      by_cases c2 : z = 2
      · exact l_tableIn C d_LW_32 (off := 208) (tgt := 240) (by rw [c2]; decide) (by rw [c2]; decide) (by rw [c2]; rfl) (by decide) (lawcase_2 C hcs q1 q2 q3 (H.2.2.1) hgo)
      by_cases c3 : z = 3
      · exact l_tableIn C d_LW_32 (off := 241) (tgt := 273) (by rw [c3]; decide) (by rw [c3]; decide) (by rw [c3]; rfl) (by decide) (lawcase_3 C hcs q1 q2 q3 (H.2.2.2.1) hgo)
      by_cases c4 : z = 4
      · exact l_tableIn C d_LW_32 (off := 290) (tgt := 322) (by rw [c4]; decide) (by rw [c4]; decide) (by rw [c4]; rfl) (by decide) (lawcase_4 C hcs q1 q2 q3 (H.2.2.2.2.1) hgo)
      by_cases c5 : z = 5
      · exact l_tableIn C d_LW_32 (off := 313) (tgt := 345) (by rw [c5]; decide) (by rw [c5]; decide) (by rw [c5]; rfl) (by decide) (lawcase_5 C hcs q1 q2 q3 (H.2.2.2.2.2.1) hgo)
      by_cases c6 : z = 6
      · exact l_tableIn C d_LW_32 (off := 346) (tgt := 378) (by rw [c6]; decide) (by rw [c6]; decide) (by rw [c6]; rfl) (by decide) (lawcase_6 C hcs q1 q2 q3 (H.2.2.2.2.2.2.1) hgo)
      by_cases c7 : z = 7
      · exact l_tableIn C d_LW_32 (off := 369) (tgt := 401) (by rw [c7]; decide) (by rw [c7]; decide) (by rw [c7]; rfl) (by decide) (lawcase_7 C hcs q1 q2 q3 (H.2.2.2.2.2.2.2.1) hgo)
      by_cases c8 : z = 8
      · exact l_tableIn C d_LW_32 (off := 382) (tgt := 414) (by rw [c8]; decide) (by rw [c8]; decide) (by rw [c8]; rfl) (by decide) (lawcase_8 C hcs q1 q2 q3 (H.2.2.2.2.2.2.2.2.1) hgo)
      by_cases c9 : z = 9
      · exact l_tableIn C d_LW_32 (off := 405) (tgt := 437) (by rw [c9]; decide) (by rw [c9]; decide) (by rw [c9]; rfl) (by decide) (lawcase_9 C hcs q1 q2 q3 (H.2.2.2.2.2.2.2.2.2.1) hgo)
      by_cases c10 : z = 10
      · exact l_tableIn C d_LW_32 (off := 438) (tgt := 470) (by rw [c10]; decide) (by rw [c10]; decide) (by rw [c10]; rfl) (by decide) (lawcase_10 C hcs q1 q2 q3 (H.2.2.2.2.2.2.2.2.2.2.1) hgo)
      by_cases c11 : z = 11
      · exact l_tableIn C d_LW_32 (off := 451) (tgt := 483) (by rw [c11]; decide) (by rw [c11]; decide) (by rw [c11]; rfl) (by decide) (lawcase_11 C hcs q1 q2 q3 (H.2.2.2.2.2.2.2.2.2.2.2.1) hgo)
      by_cases c12 : z = 12
      · exact l_tableIn C d_LW_32 (off := 474) (tgt := 506) (by rw [c12]; decide) (by rw [c12]; decide) (by rw [c12]; rfl) (by decide) (lawcase_12 C hcs q1 q2 q3 (H.2.2.2.2.2.2.2.2.2.2.2.2.1) hgo)
      by_cases c13 : z = 13
      · exact l_tableIn C d_LW_32 (off := 487) (tgt := 519) (by rw [c13]; decide) (by rw [c13]; decide) (by rw [c13]; rfl) (by decide) (lawcase_13 C hcs q1 q2 q3 (H.2.2.2.2.2.2.2.2.2.2.2.2.2.1) hgo)
      by_cases c14 : z = 14
      · exact l_tableIn C d_LW_32 (off := 500) (tgt := 532) (by rw [c14]; decide) (by rw [c14]; decide) (by rw [c14]; rfl) (by decide) (lawcase_14 C hcs q1 q2 q3 (H.2.2.2.2.2.2.2.2.2.2.2.2.2.2.1) hgo)
      by_cases c15 : z = 15
      · exact l_tableIn C d_LW_32 (off := 523) (tgt := 555) (by rw [c15]; decide) (by rw [c15]; decide) (by rw [c15]; rfl) (by decide) (lawcase_15 C hcs q1 q2 q3 (H.2.2.2.2.2.2.2.2.2.2.2.2.2.2.2.1) hgo)
      by_cases c16 : z = 16
      · exact l_tableIn C d_LW_32 (off := 536) (tgt := 568) (by rw [c16]; decide) (by rw [c16]; decide) (by rw [c16]; rfl) (by decide) (lawcase_16 C hcs q1 q2 q3 (H.2.2.2.2.2.2.2.2.2.2.2.2.2.2.2.2.1) hgo)
      by_cases c17 : z = 17
      · exact l_tableIn C d_LW_32 (off := 559) (tgt := 591) (by rw [c17]; decide) (by rw [c17]; decide) (by rw [c17]; rfl) (by decide) (lawcase_17 C hcs q1 q2 q3 (H.2.2.2.2.2.2.2.2.2.2.2.2.2.2.2.2.2.1) hgo)
      by_cases c18 : z = 18
      · exact l_tableIn C d_LW_32 (off := 592) (tgt := 624) (by rw [c18]; decide) (by rw [c18]; decide) (by rw [c18]; rfl) (by decide) (lawcase_18 C hcs q1 q2 q3 (H.2.2.2.2.2.2.2.2.2.2.2.2.2.2.2.2.2.2.1) hgo)
      by_cases c19 : z = 19
      · exact l_tableIn C d_LW_32 (off := 605) (tgt := 637) (by rw [c19]; decide) (by rw [c19]; decide) (by rw [c19]; rfl) (by decide) (lawcase_19 C hcs q1 q2 q3 (H.2.2.2.2.2.2.2.2.2.2.2.2.2.2.2.2.2.2.2.1) hgo)
      by_cases c20 : z = 20
      · exact l_tableIn C d_LW_32 (off := 618) (tgt := 650) (by rw [c20]; decide) (by rw [c20]; decide) (by rw [c20]; rfl) (by decide) (lawcase_20 C hcs q1 q2 q3 (H.2.2.2.2.2.2.2.2.2.2.2.2.2.2.2.2.2.2.2.2.1) hgo)
      by_cases c21 : z = 21
      · exact l_tableIn C d_LW_32 (off := 641) (tgt := 673) (by rw [c21]; decide) (by rw [c21]; decide) (by rw [c21]; rfl) (by decide) (lawcase_21 C hcs q1 q2 q3 (H.2.2.2.2.2.2.2.2.2.2.2.2.2.2.2.2.2.2.2.2.2.1) hgo)
      by_cases c22 : z = 22
      · exact l_tableIn C d_LW_32 (off := 674) (tgt := 706) (by rw [c22]; decide) (by rw [c22]; decide) (by rw [c22]; rfl) (by decide) (lawcase_22 C hcs q1 q2 q3 (H.2.2.2.2.2.2.2.2.2.2.2.2.2.2.2.2.2.2.2.2.2.2.1) hgo)
      by_cases c23 : z = 23
      · exact l_tableIn C d_LW_32 (off := 687) (tgt := 719) (by rw [c23]; decide) (by rw [c23]; decide) (by rw [c23]; rfl) (by decide) (lawcase_23 C hcs q1 q2 q3 (H.2.2.2.2.2.2.2.2.2.2.2.2.2.2.2.2.2.2.2.2.2.2.2.1) hgo)
      by_cases c24 : z = 24
      · exact l_tableIn C d_LW_32 (off := 720) (tgt := 752) (by rw [c24]; decide) (by rw [c24]; decide) (by rw [c24]; rfl) (by decide) (lawcase_24 C hcs q1 q2 q3 (H.2.2.2.2.2.2.2.2.2.2.2.2.2.2.2.2.2.2.2.2.2.2.2.2.1) hgo)
      by_cases c25 : z = 25
      · exact l_tableIn C d_LW_32 (off := 743) (tgt := 775) (by rw [c25]; decide) (by rw [c25]; decide) (by rw [c25]; rfl) (by decide) (lawcase_25 C hcs q1 q2 q3 (H.2.2.2.2.2.2.2.2.2.2.2.2.2.2.2.2.2.2.2.2.2.2.2.2.2.1) hgo)
      by_cases c26 : z = 26
      · exact l_tableIn C d_LW_32 (off := 776) (tgt := 808) (by rw [c26]; decide) (by rw [c26]; decide) (by rw [c26]; rfl) (by decide) (lawcase_26 C hcs q1 q2 q3 (H.2.2.2.2.2.2.2.2.2.2.2.2.2.2.2.2.2.2.2.2.2.2.2.2.2.2.1) hgo)
      by_cases c27 : z = 27
      · exact l_tableIn C d_LW_32 (off := 799) (tgt := 831) (by rw [c27]; decide) (by rw [c27]; decide) (by rw [c27]; rfl) (by decide) (lawcase_27 C hcs q1 q2 q3 (H.2.2.2.2.2.2.2.2.2.2.2.2.2.2.2.2.2.2.2.2.2.2.2.2.2.2.2.1) hgo)
      by_cases c28 : z = 28
      · exact l_tableIn C d_LW_32 (off := 832) (tgt := 864) (by rw [c28]; decide) (by rw [c28]; decide) (by rw [c28]; rfl) (by decide) (lawcase_28 C hcs q1 q2 q3 (H.2.2.2.2.2.2.2.2.2.2.2.2.2.2.2.2.2.2.2.2.2.2.2.2.2.2.2.2) hgo)
      exact l_tableOut C d_LW_32 (tgt := 887) (by have n0 := sw_ne (n := 0) (by decide) c0; have n1 := sw_ne (n := 1) (by decide) c1; have n2 := sw_ne (n := 2) (by decide) c2; have n3 := sw_ne (n := 3) (by decide) c3; have n4 := sw_ne (n := 4) (by decide) c4; have n5 := sw_ne (n := 5) (by decide) c5; have n6 := sw_ne (n := 6) (by decide) c6; have n7 := sw_ne (n := 7) (by decide) c7; have n8 := sw_ne (n := 8) (by decide) c8; have n9 := sw_ne (n := 9) (by decide) c9; have n10 := sw_ne (n := 10) (by decide) c10; have n11 := sw_ne (n := 11) (by decide) c11; have n12 := sw_ne (n := 12) (by decide) c12; have n13 := sw_ne (n := 13) (by decide) c13; have n14 := sw_ne (n := 14) (by decide) c14; have n15 := sw_ne (n := 15) (by decide) c15; have n16 := sw_ne (n := 16) (by decide) c16; have n17 := sw_ne (n := 17) (by decide) c17; have n18 := sw_ne (n := 18) (by decide) c18; have n19 := sw_ne (n := 19) (by decide) c19; have n20 := sw_ne (n := 20) (by decide) c20; have n21 := sw_ne (n := 21) (by decide) c21; have n22 := sw_ne (n := 22) (by decide) c22; have n23 := sw_ne (n := 23) (by decide) c23; have n24 := sw_ne (n := 24) (by decide) c24; have n25 := sw_ne (n := 25) (by decide) c25; have n26 := sw_ne (n := 26) (by decide) c26; have n27 := sw_ne (n := 27) (by decide) c27; have n28 := sw_ne (n := 28) (by decide) c28; omega) (by decide) (hgo IX IM hr)
