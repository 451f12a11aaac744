/-! the law, a call at a time -/
section
variable {g : Cfg} {b L : Nat} {xs : Nat → Int32} {i : Nat} {w : Wt} {cells slots : Nat}
theorem lc_14 (C : Cx g "BumperBallsLaw" code 4 12 430 600000 7302250) (S : Sc g b L xs) (hL : L ≤ 384) (hi : i + 6 ≤ L) (v : InvL w) (hc : cells + 6 ≤ 600000) (hs : slots + 43014 ≤ 7302250) (K : ∀ (w1 : Wt) (c1 s1 : Nat), InvL w1 → c1 ≤ cells + 6 → s1 ≤ slots + 43014 → XE g c1 s1 w1 964 (lvL g b i) []) : XE g cells slots w 572 (lvL g b i) [] := by
  obtain ⟨I, h⟩ := w
  obtain ⟨r, I1, I2, e1, e2, v2⟩ := cl_ahead (xs (i + 1)) (xs (i + 2)) I h v
  have e1 : fnX9_ahead I (xs (i + 1)) (xs (i + 2)) = some (r, I1) := e1
  have e2 : fnX10_ahead I1 (xs (i + 1)) (xs (i + 2)) = some (r, I2) := e2
  refine xr_aload_n C dL_572 1 rfl rfl ?_
  refine xs_arg C S hL (n := 1) (j := 1) dL_573 dL_574 dL_575 dL_576 dL_577 rfl (by omega) ?_
  refine xs_arg C S hL (n := 2) (j := 2) dL_578 dL_579 dL_580 dL_581 dL_582 rfl (by omega) ?_
  refine xr_callVI C [.int (xs (i + 1)), .int (xs (i + 2))] lkL_77 (kX9_ahead v.1 e1) Kd9 rfl v.1.1 rfl (Nat.le_of_ble_eq_true rfl) rfl dL_583 ⟨⟨by decide, by decide⟩, by omega, by omega⟩ rfl ?_
  refine xr_aload_n C dL_586 2 rfl rfl ?_
  refine xs_arg C S hL (n := 1) (j := 1) dL_587 dL_588 dL_589 dL_590 dL_591 rfl (by omega) ?_
  refine xs_arg C S hL (n := 2) (j := 2) dL_592 dL_593 dL_594 dL_595 dL_596 rfl (by omega) ?_
  refine xr_callVI C [.int (xs (i + 1)), .int (xs (i + 2))] lkL_80 (kX10_ahead v.2.1 e2) Kd10 rfl v.2.1.1 rfl (Nat.le_of_ble_eq_true rfl) rfl dL_597 ⟨⟨by decide, by decide⟩, by omega, by omega⟩ rfl ?_
  refine xr_icmp_eq (tgt := 964) (A := some ()) (Bx := none) (o := ()) C dL_600 (by decide) (if_pos rfl) (fun _ _ => ?_) (fun q _ => absurd rfl q)
  exact K (I2, h) _ _ v2 (by omega) (by omega)
theorem lc_15 (C : Cx g "BumperBallsLaw" code 4 12 430 600000 7302250) (S : Sc g b L xs) (hL : L ≤ 384) (hi : i + 6 ≤ L) (v : InvL w) (hc : cells + 6 ≤ 600000) (hs : slots + 43014 ≤ 7302250) (K : ∀ (w1 : Wt) (c1 s1 : Nat), InvL w1 → c1 ≤ cells + 6 → s1 ≤ slots + 43014 → XE g c1 s1 w1 964 (lvL g b i) []) : XE g cells slots w 605 (lvL g b i) [] := by
  obtain ⟨I, h⟩ := w
  obtain ⟨r, I1, I2, e1, e2, v2⟩ := cl_lasts (xs (i + 1)) I h v
  have e1 : fnX9_lasts I (xs (i + 1)) = some (r, I1) := e1
  have e2 : fnX10_lasts I1 (xs (i + 1)) = some (r, I2) := e2
  refine xr_aload_n C dL_605 1 rfl rfl ?_
  refine xs_arg C S hL (n := 1) (j := 1) dL_606 dL_607 dL_608 dL_609 dL_610 rfl (by omega) ?_
  refine xr_callVI C [.int (xs (i + 1))] lkL_81 (kX9_lasts v.1 e1) Kd9 rfl v.1.1 rfl (Nat.le_of_ble_eq_true rfl) rfl dL_611 ⟨⟨by decide, by decide⟩, by omega, by omega⟩ rfl ?_
  refine xr_aload_n C dL_614 2 rfl rfl ?_
  refine xs_arg C S hL (n := 1) (j := 1) dL_615 dL_616 dL_617 dL_618 dL_619 rfl (by omega) ?_
  refine xr_callVI C [.int (xs (i + 1))] lkL_84 (kX10_lasts v.2.1 e2) Kd10 rfl v.2.1.1 rfl (Nat.le_of_ble_eq_true rfl) rfl dL_620 ⟨⟨by decide, by decide⟩, by omega, by omega⟩ rfl ?_
  refine xr_icmp_eq (tgt := 964) (A := some ()) (Bx := none) (o := ()) C dL_623 (by decide) (if_pos rfl) (fun _ _ => ?_) (fun q _ => absurd rfl q)
  exact K (I2, h) _ _ v2 (by omega) (by omega)
theorem lc_16 (C : Cx g "BumperBallsLaw" code 4 12 430 600000 7302250) (S : Sc g b L xs) (hL : L ≤ 384) (hi : i + 6 ≤ L) (v : InvL w) (hc : cells + 6 ≤ 600000) (hs : slots + 43014 ≤ 7302250) (K : ∀ (w1 : Wt) (c1 s1 : Nat), InvL w1 → c1 ≤ cells + 6 → s1 ≤ slots + 43014 → XE g c1 s1 w1 964 (lvL g b i) []) : XE g cells slots w 628 (lvL g b i) [] := by
  obtain ⟨I, h⟩ := w
  obtain ⟨r, I1, I2, e1, e2, v2⟩ := cl_richest (xs (i + 1)) (xs (i + 2)) I h v
  have e1 : fnX9_richest I (xs (i + 1)) (xs (i + 2)) = some (r, I1) := e1
  have e2 : fnX10_richest I1 (xs (i + 1)) (xs (i + 2)) = some (r, I2) := e2
  refine xr_aload_n C dL_628 1 rfl rfl ?_
  refine xs_arg C S hL (n := 1) (j := 1) dL_629 dL_630 dL_631 dL_632 dL_633 rfl (by omega) ?_
  refine xs_arg C S hL (n := 2) (j := 2) dL_634 dL_635 dL_636 dL_637 dL_638 rfl (by omega) ?_
  refine xr_callVI C [.int (xs (i + 1)), .int (xs (i + 2))] lkL_85 (kX9_richest v.1 e1) Kd9 rfl v.1.1 rfl (Nat.le_of_ble_eq_true rfl) rfl dL_639 ⟨⟨by decide, by decide⟩, by omega, by omega⟩ rfl ?_
  refine xr_aload_n C dL_642 2 rfl rfl ?_
  refine xs_arg C S hL (n := 1) (j := 1) dL_643 dL_644 dL_645 dL_646 dL_647 rfl (by omega) ?_
  refine xs_arg C S hL (n := 2) (j := 2) dL_648 dL_649 dL_650 dL_651 dL_652 rfl (by omega) ?_
  refine xr_callVI C [.int (xs (i + 1)), .int (xs (i + 2))] lkL_88 (kX10_richest v.2.1 e2) Kd10 rfl v.2.1.1 rfl (Nat.le_of_ble_eq_true rfl) rfl dL_653 ⟨⟨by decide, by decide⟩, by omega, by omega⟩ rfl ?_
  refine xr_icmp_eq (tgt := 964) (A := some ()) (Bx := none) (o := ()) C dL_656 (by decide) (if_pos rfl) (fun _ _ => ?_) (fun q _ => absurd rfl q)
  exact K (I2, h) _ _ v2 (by omega) (by omega)
theorem lc_17 (C : Cx g "BumperBallsLaw" code 4 12 430 600000 7302250) (S : Sc g b L xs) (hL : L ≤ 384) (hi : i + 6 ≤ L) (v : InvL w) (hc : cells + 6 ≤ 600000) (hs : slots + 43014 ≤ 7302250) (K : ∀ (w1 : Wt) (c1 s1 : Nat), InvL w1 → c1 ≤ cells + 6 → s1 ≤ slots + 43014 → XE g c1 s1 w1 964 (lvL g b i) []) : XE g cells slots w 661 (lvL g b i) [] := by
  obtain ⟨mB, sB, r, w1, I2, e1, e2, f⟩ := p_nudged v.2.2.2.1 v.1 v.2.2.1 (xs (i + 1)) (xs (i + 2))
  obtain ⟨f1, f2, f3, f4, f5, f6⟩ := id f
  obtain ⟨I1, h1⟩ := w1
  have hM : MAt h1 := MAt_x f4 v.2.1
  have e2 : fnX10_nudged I1 (xs (i + 1)) (xs (i + 2)) = some (r, I2) := e2
  refine xr_aload_n C dL_661 1 rfl rfl ?_
  refine xs_arg C S hL (n := 1) (j := 1) dL_662 dL_663 dL_664 dL_665 dL_666 rfl (by omega) ?_
  refine xs_arg C S hL (n := 2) (j := 2) dL_667 dL_668 dL_669 dL_670 dL_671 rfl (by omega) ?_
  refine xr_callVI C [.int (xs (i + 1)), .int (xs (i + 2))] lkL_89 (kwX9_nudged e1) Kd9 rfl v.1.1 rfl (Nat.le_of_ble_eq_true rfl) rfl dL_672 ⟨⟨by decide, by decide⟩, by omega, by omega⟩ f3 ?_
  refine xr_aload_n C dL_675 2 rfl rfl ?_
  refine xs_arg C S hL (n := 1) (j := 1) dL_676 dL_677 dL_678 dL_679 dL_680 rfl (by omega) ?_
  refine xs_arg C S hL (n := 2) (j := 2) dL_681 dL_682 dL_683 dL_684 dL_685 rfl (by omega) ?_
  refine xr_callVI C [.int (xs (i + 1)), .int (xs (i + 2))] lkL_92 (kX10_nudged hM e2) Kd10 rfl hM.1 rfl (Nat.le_of_ble_eq_true rfl) rfl dL_686 ⟨⟨by decide, by decide⟩, by omega, by omega⟩ rfl ?_
  refine xr_icmp_eq (tgt := 964) (A := some ()) (Bx := none) (o := ()) C dL_689 (by decide) (if_pos rfl) (fun _ _ => ?_) (fun q _ => absurd rfl q)
  exact K (I2, h1) _ _ (cl_nok v f) (by omega) (by omega)
theorem lc_18 (C : Cx g "BumperBallsLaw" code 4 12 430 600000 7302250) (S : Sc g b L xs) (hL : L ≤ 384) (hi : i + 6 ≤ L) (v : InvL w) (hc : cells + 6 ≤ 600000) (hs : slots + 43014 ≤ 7302250) (K : ∀ (w1 : Wt) (c1 s1 : Nat), InvL w1 → c1 ≤ cells + 6 → s1 ≤ slots + 43014 → XE g c1 s1 w1 964 (lvL g b i) []) : XE g cells slots w 694 (lvL g b i) [] := by
  obtain ⟨mB, sB, r, w1, I2, e1, e2, f⟩ := p_kept v.2.2.2.1 v.1 v.2.2.1 (xs (i + 1))
  obtain ⟨f1, f2, f3, f4, f5, f6⟩ := id f
  obtain ⟨I1, h1⟩ := w1
  have hM : MAt h1 := MAt_x f4 v.2.1
  have e2 : fnX10_kept I1 (xs (i + 1)) = some (r, I2) := e2
  refine xr_aload_n C dL_694 1 rfl rfl ?_
  refine xs_arg C S hL (n := 1) (j := 1) dL_695 dL_696 dL_697 dL_698 dL_699 rfl (by omega) ?_
  refine xr_callVI C [.int (xs (i + 1))] lkL_93 (kwX9_kept e1) Kd9 rfl v.1.1 rfl (Nat.le_of_ble_eq_true rfl) rfl dL_700 ⟨⟨by decide, by decide⟩, by omega, by omega⟩ f3 ?_
  refine xr_aload_n C dL_703 2 rfl rfl ?_
  refine xs_arg C S hL (n := 1) (j := 1) dL_704 dL_705 dL_706 dL_707 dL_708 rfl (by omega) ?_
  refine xr_callVI C [.int (xs (i + 1))] lkL_96 (kX10_kept hM e2) Kd10 rfl hM.1 rfl (Nat.le_of_ble_eq_true rfl) rfl dL_709 ⟨⟨by decide, by decide⟩, by omega, by omega⟩ rfl ?_
  refine xr_icmp_eq (tgt := 964) (A := some ()) (Bx := none) (o := ()) C dL_712 (by decide) (if_pos rfl) (fun _ _ => ?_) (fun q _ => absurd rfl q)
  exact K (I2, h1) _ _ (cl_nok v f) (by omega) (by omega)
theorem lc_19 (C : Cx g "BumperBallsLaw" code 4 12 430 600000 7302250) (S : Sc g b L xs) (hL : L ≤ 384) (hi : i + 6 ≤ L) (v : InvL w) (hc : cells + 6 ≤ 600000) (hs : slots + 43014 ≤ 7302250) (K : ∀ (w1 : Wt) (c1 s1 : Nat), InvL w1 → c1 ≤ cells + 6 → s1 ≤ slots + 43014 → XE g c1 s1 w1 964 (lvL g b i) []) : XE g cells slots w 717 (lvL g b i) [] := by
  obtain ⟨I, h⟩ := w
  obtain ⟨r, I1, I2, e1, e2, v2⟩ := cl_heard (xs (i + 1)) (xs (i + 2)) (xs (i + 3)) (xs (i + 4)) I h v
  have e1 : fnX9_heard I (xs (i + 1)) (xs (i + 2)) (xs (i + 3)) (xs (i + 4)) = some (r, I1) := e1
  have e2 : fnX10_heard I1 (xs (i + 1)) (xs (i + 2)) (xs (i + 3)) (xs (i + 4)) = some (r, I2) := e2
  refine xr_aload_n C dL_717 1 rfl rfl ?_
  refine xs_arg C S hL (n := 1) (j := 1) dL_718 dL_719 dL_720 dL_721 dL_722 rfl (by omega) ?_
  refine xs_arg C S hL (n := 2) (j := 2) dL_723 dL_724 dL_725 dL_726 dL_727 rfl (by omega) ?_
  refine xs_arg C S hL (n := 3) (j := 3) dL_728 dL_729 dL_730 dL_731 dL_732 rfl (by omega) ?_
  refine xs_arg C S hL (n := 4) (j := 4) dL_733 dL_734 dL_735 dL_736 dL_737 rfl (by omega) ?_
  refine xr_callVI C [.int (xs (i + 1)), .int (xs (i + 2)), .int (xs (i + 3)), .int (xs (i + 4))] lkL_97 (kX9_heard v.1 e1) Kd9 rfl v.1.1 rfl (Nat.le_of_ble_eq_true rfl) rfl dL_738 ⟨⟨by decide, by decide⟩, by omega, by omega⟩ rfl ?_
  refine xr_aload_n C dL_741 2 rfl rfl ?_
  refine xs_arg C S hL (n := 1) (j := 1) dL_742 dL_743 dL_744 dL_745 dL_746 rfl (by omega) ?_
  refine xs_arg C S hL (n := 2) (j := 2) dL_747 dL_748 dL_749 dL_750 dL_751 rfl (by omega) ?_
  refine xs_arg C S hL (n := 3) (j := 3) dL_752 dL_753 dL_754 dL_755 dL_756 rfl (by omega) ?_
  refine xs_arg C S hL (n := 4) (j := 4) dL_757 dL_758 dL_759 dL_760 dL_761 rfl (by omega) ?_
  refine xr_callVI C [.int (xs (i + 1)), .int (xs (i + 2)), .int (xs (i + 3)), .int (xs (i + 4))] lkL_101 (kX10_heard v.2.1 e2) Kd10 rfl v.2.1.1 rfl (Nat.le_of_ble_eq_true rfl) rfl dL_762 ⟨⟨by decide, by decide⟩, by omega, by omega⟩ rfl ?_
  refine xr_icmp_eq (tgt := 964) (A := some ()) (Bx := none) (o := ()) C dL_765 (by decide) (if_pos rfl) (fun _ _ => ?_) (fun q _ => absurd rfl q)
  exact K (I2, h) _ _ v2 (by omega) (by omega)
theorem lc_20 (C : Cx g "BumperBallsLaw" code 4 12 430 600000 7302250) (S : Sc g b L xs) (hL : L ≤ 384) (hi : i + 6 ≤ L) (v : InvL w) (hc : cells + 6 ≤ 600000) (hs : slots + 43014 ≤ 7302250) (K : ∀ (w1 : Wt) (c1 s1 : Nat), InvL w1 → c1 ≤ cells + 6 → s1 ≤ slots + 43014 → XE g c1 s1 w1 964 (lvL g b i) []) : XE g cells slots w 770 (lvL g b i) [] := by
  obtain ⟨I, h⟩ := w
  obtain ⟨r, I1, I2, e1, e2, v2⟩ := cl_image (xs (i + 1)) I h v
  have e1 : fnX9_image I (xs (i + 1)) = some (r, I1) := e1
  have e2 : fnX10_image I1 (xs (i + 1)) = some (r, I2) := e2
  refine xr_aload_n C dL_770 1 rfl rfl ?_
  refine xs_arg C S hL (n := 1) (j := 1) dL_771 dL_772 dL_773 dL_774 dL_775 rfl (by omega) ?_
  refine xr_callVI C [.int (xs (i + 1))] lkL_102 (kX9_image v.1 e1) Kd9 rfl v.1.1 rfl (Nat.le_of_ble_eq_true rfl) rfl dL_776 ⟨⟨by decide, by decide⟩, by omega, by omega⟩ rfl ?_
  refine xr_aload_n C dL_779 2 rfl rfl ?_
  refine xs_arg C S hL (n := 1) (j := 1) dL_780 dL_781 dL_782 dL_783 dL_784 rfl (by omega) ?_
  refine xr_callVI C [.int (xs (i + 1))] lkL_105 (kX10_image v.2.1 e2) Kd10 rfl v.2.1.1 rfl (Nat.le_of_ble_eq_true rfl) rfl dL_785 ⟨⟨by decide, by decide⟩, by omega, by omega⟩ rfl ?_
  refine xr_icmp_eq (tgt := 964) (A := some ()) (Bx := none) (o := ()) C dL_788 (by decide) (if_pos rfl) (fun _ _ => ?_) (fun q _ => absurd rfl q)
  exact K (I2, h) _ _ v2 (by omega) (by omega)
theorem lc_21 (C : Cx g "BumperBallsLaw" code 4 12 430 600000 7302250) (S : Sc g b L xs) (hL : L ≤ 384) (hi : i + 6 ≤ L) (v : InvL w) (hc : cells + 6 ≤ 600000) (hs : slots + 43014 ≤ 7302250) (K : ∀ (w1 : Wt) (c1 s1 : Nat), InvL w1 → c1 ≤ cells + 6 → s1 ≤ slots + 43014 → XE g c1 s1 w1 964 (lvL g b i) []) : XE g cells slots w 793 (lvL g b i) [] := by
  obtain ⟨I, h⟩ := w
  obtain ⟨r, I1, I2, e1, e2, v2⟩ := cl_restore (xs (i + 1)) I h v
  have e1 : fnX9_restore I (xs (i + 1)) = some (r, I1) := e1
  have e2 : fnX10_restore I1 (xs (i + 1)) = some (r, I2) := e2
  refine xr_aload_n C dL_793 1 rfl rfl ?_
  refine xs_arg C S hL (n := 1) (j := 1) dL_794 dL_795 dL_796 dL_797 dL_798 rfl (by omega) ?_
  refine xr_callVI C [.int (xs (i + 1))] lkL_106 (kX9_restore v.1 e1) Kd9 rfl v.1.1 rfl (Nat.le_of_ble_eq_true rfl) rfl dL_799 ⟨⟨by decide, by decide⟩, by omega, by omega⟩ rfl ?_
  refine xr_aload_n C dL_802 2 rfl rfl ?_
  refine xs_arg C S hL (n := 1) (j := 1) dL_803 dL_804 dL_805 dL_806 dL_807 rfl (by omega) ?_
  refine xr_callVI C [.int (xs (i + 1))] lkL_109 (kX10_restore v.2.1 e2) Kd10 rfl v.2.1.1 rfl (Nat.le_of_ble_eq_true rfl) rfl dL_808 ⟨⟨by decide, by decide⟩, by omega, by omega⟩ rfl ?_
  refine xr_icmp_eq (tgt := 964) (A := some ()) (Bx := none) (o := ()) C dL_811 (by decide) (if_pos rfl) (fun _ _ => ?_) (fun q _ => absurd rfl q)
  exact K (I2, h) _ _ v2 (by omega) (by omega)
theorem lc_22 (C : Cx g "BumperBallsLaw" code 4 12 430 600000 7302250) (S : Sc g b L xs) (hL : L ≤ 384) (hi : i + 6 ≤ L) (v : InvL w) (hc : cells + 6 ≤ 600000) (hs : slots + 43014 ≤ 7302250) (K : ∀ (w1 : Wt) (c1 s1 : Nat), InvL w1 → c1 ≤ cells + 6 → s1 ≤ slots + 43014 → XE g c1 s1 w1 964 (lvL g b i) []) : XE g cells slots w 816 (lvL g b i) [] := by
  obtain ⟨I, h⟩ := w
  obtain ⟨r, I1, I2, e1, e2, v2⟩ := cl_kind (xs (i + 1)) I h v
  have e1 : fnX9_kind I (xs (i + 1)) = some (r, I1) := e1
  have e2 : fnX10_kind I1 (xs (i + 1)) = some (r, I2) := e2
  refine xr_aload_n C dL_816 1 rfl rfl ?_
  refine xs_arg C S hL (n := 1) (j := 1) dL_817 dL_818 dL_819 dL_820 dL_821 rfl (by omega) ?_
  refine xr_callVI C [.int (xs (i + 1))] lkL_110 (kX9_kind v.1 e1) Kd9 rfl v.1.1 rfl (Nat.le_of_ble_eq_true rfl) rfl dL_822 ⟨⟨by decide, by decide⟩, by omega, by omega⟩ rfl ?_
  refine xr_aload_n C dL_825 2 rfl rfl ?_
  refine xs_arg C S hL (n := 1) (j := 1) dL_826 dL_827 dL_828 dL_829 dL_830 rfl (by omega) ?_
  refine xr_callVI C [.int (xs (i + 1))] lkL_113 (kX10_kind v.2.1 e2) Kd10 rfl v.2.1.1 rfl (Nat.le_of_ble_eq_true rfl) rfl dL_831 ⟨⟨by decide, by decide⟩, by omega, by omega⟩ rfl ?_
  refine xr_icmp_eq (tgt := 964) (A := some ()) (Bx := none) (o := ()) C dL_834 (by decide) (if_pos rfl) (fun _ _ => ?_) (fun q _ => absurd rfl q)
  exact K (I2, h) _ _ v2 (by omega) (by omega)
theorem lc_23 (C : Cx g "BumperBallsLaw" code 4 12 430 600000 7302250) (S : Sc g b L xs) (hL : L ≤ 384) (hi : i + 6 ≤ L) (v : InvL w) (hc : cells + 6 ≤ 600000) (hs : slots + 43014 ≤ 7302250) (K : ∀ (w1 : Wt) (c1 s1 : Nat), InvL w1 → c1 ≤ cells + 6 → s1 ≤ slots + 43014 → XE g c1 s1 w1 964 (lvL g b i) []) : XE g cells slots w 839 (lvL g b i) [] := by
  obtain ⟨I, h⟩ := w
  obtain ⟨r, I1, I2, e1, e2, v2⟩ := cl_as (xs (i + 1)) (xs (i + 2)) I h v
  have e1 : fnX9_as I (xs (i + 1)) (xs (i + 2)) = some (r, I1) := e1
  have e2 : fnX10_as I1 (xs (i + 1)) (xs (i + 2)) = some (r, I2) := e2
  refine xr_aload_n C dL_839 1 rfl rfl ?_
  refine xs_arg C S hL (n := 1) (j := 1) dL_840 dL_841 dL_842 dL_843 dL_844 rfl (by omega) ?_
  refine xs_arg C S hL (n := 2) (j := 2) dL_845 dL_846 dL_847 dL_848 dL_849 rfl (by omega) ?_
  refine xr_callVI C [.int (xs (i + 1)), .int (xs (i + 2))] lkL_114 (kX9_as v.1 e1) Kd9 rfl v.1.1 rfl (Nat.le_of_ble_eq_true rfl) rfl dL_850 ⟨⟨by decide, by decide⟩, by omega, by omega⟩ rfl ?_
  refine xr_aload_n C dL_853 2 rfl rfl ?_
  refine xs_arg C S hL (n := 1) (j := 1) dL_854 dL_855 dL_856 dL_857 dL_858 rfl (by omega) ?_
  refine xs_arg C S hL (n := 2) (j := 2) dL_859 dL_860 dL_861 dL_862 dL_863 rfl (by omega) ?_
  refine xr_callVI C [.int (xs (i + 1)), .int (xs (i + 2))] lkL_117 (kX10_as v.2.1 e2) Kd10 rfl v.2.1.1 rfl (Nat.le_of_ble_eq_true rfl) rfl dL_864 ⟨⟨by decide, by decide⟩, by omega, by omega⟩ rfl ?_
  refine xr_icmp_eq (tgt := 964) (A := some ()) (Bx := none) (o := ()) C dL_867 (by decide) (if_pos rfl) (fun _ _ => ?_) (fun q _ => absurd rfl q)
  exact K (I2, h) _ _ v2 (by omega) (by omega)
theorem lc_24 (C : Cx g "BumperBallsLaw" code 4 12 430 600000 7302250) (S : Sc g b L xs) (hL : L ≤ 384) (hi : i + 6 ≤ L) (v : InvL w) (hc : cells + 6 ≤ 600000) (hs : slots + 43014 ≤ 7302250) (K : ∀ (w1 : Wt) (c1 s1 : Nat), InvL w1 → c1 ≤ cells + 6 → s1 ≤ slots + 43014 → XE g c1 s1 w1 964 (lvL g b i) []) : XE g cells slots w 872 (lvL g b i) [] := by
  obtain ⟨I, h⟩ := w
  obtain ⟨r, I1, I2, e1, e2, v2⟩ := cl_ask (xs (i + 1)) (xs (i + 2)) I h v
  have e1 : fnX9_ask I (xs (i + 1)) (xs (i + 2)) = some (r, I1) := e1
  have e2 : fnX10_ask I1 (xs (i + 1)) (xs (i + 2)) = some (r, I2) := e2
  refine xr_aload_n C dL_872 1 rfl rfl ?_
  refine xs_arg C S hL (n := 1) (j := 1) dL_873 dL_874 dL_875 dL_876 dL_877 rfl (by omega) ?_
  refine xs_arg C S hL (n := 2) (j := 2) dL_878 dL_879 dL_880 dL_881 dL_882 rfl (by omega) ?_
  refine xr_callVI C [.int (xs (i + 1)), .int (xs (i + 2))] lkL_118 (kX9_ask v.1 e1) Kd9 rfl v.1.1 rfl (Nat.le_of_ble_eq_true rfl) rfl dL_883 ⟨⟨by decide, by decide⟩, by omega, by omega⟩ rfl ?_
  refine xr_aload_n C dL_886 2 rfl rfl ?_
  refine xs_arg C S hL (n := 1) (j := 1) dL_887 dL_888 dL_889 dL_890 dL_891 rfl (by omega) ?_
  refine xs_arg C S hL (n := 2) (j := 2) dL_892 dL_893 dL_894 dL_895 dL_896 rfl (by omega) ?_
  refine xr_callVI C [.int (xs (i + 1)), .int (xs (i + 2))] lkL_121 (kX10_ask v.2.1 e2) Kd10 rfl v.2.1.1 rfl (Nat.le_of_ble_eq_true rfl) rfl dL_897 ⟨⟨by decide, by decide⟩, by omega, by omega⟩ rfl ?_
  refine xr_icmp_eq (tgt := 964) (A := some ()) (Bx := none) (o := ()) C dL_900 (by decide) (if_pos rfl) (fun _ _ => ?_) (fun q _ => absurd rfl q)
  exact K (I2, h) _ _ v2 (by omega) (by omega)
theorem lc_25 (C : Cx g "BumperBallsLaw" code 4 12 430 600000 7302250) (S : Sc g b L xs) (hL : L ≤ 384) (hi : i + 6 ≤ L) (v : InvL w) (hc : cells + 6 ≤ 600000) (hs : slots + 43014 ≤ 7302250) (K : ∀ (w1 : Wt) (c1 s1 : Nat), InvL w1 → c1 ≤ cells + 6 → s1 ≤ slots + 43014 → XE g c1 s1 w1 964 (lvL g b i) []) : XE g cells slots w 905 (lvL g b i) [] := by
  obtain ⟨I, h⟩ := w
  obtain ⟨r, I1, I2, e1, e2, v2⟩ := cl_trace (xs (i + 1)) I h v
  have e1 : fnX9_trace I (xs (i + 1)) = some (r, I1) := e1
  have e2 : fnX10_trace I1 (xs (i + 1)) = some (r, I2) := e2
  refine xr_aload_n C dL_905 1 rfl rfl ?_
  refine xs_arg C S hL (n := 1) (j := 1) dL_906 dL_907 dL_908 dL_909 dL_910 rfl (by omega) ?_
  refine xr_callVI C [.int (xs (i + 1))] lkL_122 (kX9_trace v.1 e1) Kd9 rfl v.1.1 rfl (Nat.le_of_ble_eq_true rfl) rfl dL_911 ⟨⟨by decide, by decide⟩, by omega, by omega⟩ rfl ?_
  refine xr_aload_n C dL_914 2 rfl rfl ?_
  refine xs_arg C S hL (n := 1) (j := 1) dL_915 dL_916 dL_917 dL_918 dL_919 rfl (by omega) ?_
  refine xr_callVI C [.int (xs (i + 1))] lkL_125 (kX10_trace v.2.1 e2) Kd10 rfl v.2.1.1 rfl (Nat.le_of_ble_eq_true rfl) rfl dL_920 ⟨⟨by decide, by decide⟩, by omega, by omega⟩ rfl ?_
  refine xr_icmp_eq (tgt := 964) (A := some ()) (Bx := none) (o := ()) C dL_923 (by decide) (if_pos rfl) (fun _ _ => ?_) (fun q _ => absurd rfl q)
  exact K (I2, h) _ _ v2 (by omega) (by omega)
theorem lc_26 (C : Cx g "BumperBallsLaw" code 4 12 430 600000 7302250) (S : Sc g b L xs) (hL : L ≤ 384) (hi : i + 6 ≤ L) (v : InvL w) (hc : cells + 6 ≤ 600000) (hs : slots + 43014 ≤ 7302250) (K : ∀ (w1 : Wt) (c1 s1 : Nat), InvL w1 → c1 ≤ cells + 6 → s1 ≤ slots + 43014 → XE g c1 s1 w1 964 (lvL g b i) []) : XE g cells slots w 928 (lvL g b i) [] := by
  obtain ⟨I, h⟩ := w
  obtain ⟨r, I1, I2, e1, e2, v2⟩ := cl_count (xs (i + 1)) I h v
  have e1 : fnX9_count I (xs (i + 1)) = some (r, I1) := e1
  have e2 : fnX10_count I1 (xs (i + 1)) = some (r, I2) := e2
  refine xr_aload_n C dL_928 1 rfl rfl ?_
  refine xs_arg C S hL (n := 1) (j := 1) dL_929 dL_930 dL_931 dL_932 dL_933 rfl (by omega) ?_
  refine xr_callVI C [.int (xs (i + 1))] lkL_126 (kX9_count v.1 e1) Kd9 rfl v.1.1 rfl (Nat.le_of_ble_eq_true rfl) rfl dL_934 ⟨⟨by decide, by decide⟩, by omega, by omega⟩ rfl ?_
  refine xr_aload_n C dL_937 2 rfl rfl ?_
  refine xs_arg C S hL (n := 1) (j := 1) dL_938 dL_939 dL_940 dL_941 dL_942 rfl (by omega) ?_
  refine xr_callVI C [.int (xs (i + 1))] lkL_129 (kX10_count v.2.1 e2) Kd10 rfl v.2.1.1 rfl (Nat.le_of_ble_eq_true rfl) rfl dL_943 ⟨⟨by decide, by decide⟩, by omega, by omega⟩ rfl ?_
  refine xr_icmp_eq (tgt := 964) (A := some ()) (Bx := none) (o := ()) C dL_946 (by decide) (if_pos rfl) (fun _ _ => ?_) (fun q _ => absurd rfl q)
  exact K (I2, h) _ _ v2 (by omega) (by omega)
theorem lc_27 (C : Cx g "BumperBallsLaw" code 4 12 430 600000 7302250) (S : Sc g b L xs) (hL : L ≤ 384) (hi : i + 6 ≤ L) (v : InvL w) (hc : cells + 6 ≤ 600000) (hs : slots + 43014 ≤ 7302250) (K : ∀ (w1 : Wt) (c1 s1 : Nat), InvL w1 → c1 ≤ cells + 6 → s1 ≤ slots + 43014 → XE g c1 s1 w1 964 (lvL g b i) []) : XE g cells slots w 951 (lvL g b i) [] := by
  obtain ⟨I, h⟩ := w
  obtain ⟨r, I1, I2, e1, e2, v2⟩ := cl_status  I h v
  have e1 : fnX9_status I  = some (r, I1) := e1
  have e2 : fnX10_status I1  = some (r, I2) := e2
  refine xr_aload_n C dL_951 1 rfl rfl ?_
  refine xr_callVI C [] lkL_130 (kX9_status v.1 e1) Kd9 rfl v.1.1 rfl (Nat.le_of_ble_eq_true rfl) rfl dL_952 ⟨⟨by decide, by decide⟩, by omega, by omega⟩ rfl ?_
  refine xr_aload_n C dL_955 2 rfl rfl ?_
  refine xr_callVI C [] lkL_133 (kX10_status v.2.1 e2) Kd10 rfl v.2.1.1 rfl (Nat.le_of_ble_eq_true rfl) rfl dL_956 ⟨⟨by decide, by decide⟩, by omega, by omega⟩ rfl ?_
  refine xr_icmp_eq (tgt := 964) (A := some ()) (Bx := none) (o := ()) C dL_959 (by decide) (if_pos rfl) (fun _ _ => ?_) (fun q _ => absurd rfl q)
  exact K (I2, h) _ _ v2 (by omega) (by omega)
end
