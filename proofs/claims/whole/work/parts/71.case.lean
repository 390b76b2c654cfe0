/-! THE LAW: the cases of its switch (written by mk68.py) -/
theorem d_law_659 : decode code 659 = .ok (.aload_n 1, 1) := by decide +kernel
theorem d_law_660 : decode code 660 = .ok (.aload_n 0, 1) := by decide +kernel
theorem d_law_661 : decode code 661 = .ok (.iload_n 3, 1) := by decide +kernel
theorem d_law_662 : decode code 662 = .ok (.iconst 1, 1) := by decide +kernel
theorem d_law_663 : decode code 663 = .ok (.iadd, 1) := by decide +kernel
theorem d_law_664 : decode code 664 = .ok (.iaload, 1) := by decide +kernel
theorem d_law_665 : decode code 665 = .ok (.invokevirtual 81, 3) := by decide +kernel
theorem d_law_668 : decode code 668 = .ok (.aload_n 2, 1) := by decide +kernel
theorem d_law_669 : decode code 669 = .ok (.aload_n 0, 1) := by decide +kernel
theorem d_law_670 : decode code 670 = .ok (.iload_n 3, 1) := by decide +kernel
theorem d_law_671 : decode code 671 = .ok (.iconst 1, 1) := by decide +kernel
theorem d_law_672 : decode code 672 = .ok (.iadd, 1) := by decide +kernel
theorem d_law_673 : decode code 673 = .ok (.iaload, 1) := by decide +kernel
theorem d_law_674 : decode code 674 = .ok (.invokevirtual 84, 3) := by decide +kernel
theorem d_law_677 : decode code 677 = .ok (.if_icmp .eq 448, 3) := by decide +kernel
theorem d_law_682 : decode code 682 = .ok (.aload_n 1, 1) := by decide +kernel
theorem d_law_683 : decode code 683 = .ok (.aload_n 0, 1) := by decide +kernel
theorem d_law_684 : decode code 684 = .ok (.iload_n 3, 1) := by decide +kernel
theorem d_law_685 : decode code 685 = .ok (.iconst 1, 1) := by decide +kernel
theorem d_law_686 : decode code 686 = .ok (.iadd, 1) := by decide +kernel
theorem d_law_687 : decode code 687 = .ok (.iaload, 1) := by decide +kernel
theorem d_law_688 : decode code 688 = .ok (.aload_n 0, 1) := by decide +kernel
theorem d_law_689 : decode code 689 = .ok (.iload_n 3, 1) := by decide +kernel
theorem d_law_690 : decode code 690 = .ok (.iconst 2, 1) := by decide +kernel
theorem d_law_691 : decode code 691 = .ok (.iadd, 1) := by decide +kernel
theorem d_law_692 : decode code 692 = .ok (.iaload, 1) := by decide +kernel
theorem d_law_693 : decode code 693 = .ok (.aload_n 0, 1) := by decide +kernel
theorem d_law_694 : decode code 694 = .ok (.iload_n 3, 1) := by decide +kernel
theorem d_law_695 : decode code 695 = .ok (.iconst 3, 1) := by decide +kernel
theorem d_law_696 : decode code 696 = .ok (.iadd, 1) := by decide +kernel
theorem d_law_697 : decode code 697 = .ok (.iaload, 1) := by decide +kernel
theorem d_law_698 : decode code 698 = .ok (.invokevirtual 85, 3) := by decide +kernel
theorem d_law_701 : decode code 701 = .ok (.aload_n 2, 1) := by decide +kernel
theorem d_law_702 : decode code 702 = .ok (.aload_n 0, 1) := by decide +kernel
theorem d_law_703 : decode code 703 = .ok (.iload_n 3, 1) := by decide +kernel
theorem d_law_704 : decode code 704 = .ok (.iconst 1, 1) := by decide +kernel
theorem d_law_705 : decode code 705 = .ok (.iadd, 1) := by decide +kernel
theorem d_law_706 : decode code 706 = .ok (.iaload, 1) := by decide +kernel
theorem d_law_707 : decode code 707 = .ok (.aload_n 0, 1) := by decide +kernel
theorem d_law_708 : decode code 708 = .ok (.iload_n 3, 1) := by decide +kernel
theorem d_law_709 : decode code 709 = .ok (.iconst 2, 1) := by decide +kernel
theorem d_law_710 : decode code 710 = .ok (.iadd, 1) := by decide +kernel
theorem d_law_711 : decode code 711 = .ok (.iaload, 1) := by decide +kernel
theorem d_law_712 : decode code 712 = .ok (.aload_n 0, 1) := by decide +kernel
theorem d_law_713 : decode code 713 = .ok (.iload_n 3, 1) := by decide +kernel
theorem d_law_714 : decode code 714 = .ok (.iconst 3, 1) := by decide +kernel
theorem d_law_715 : decode code 715 = .ok (.iadd, 1) := by decide +kernel
theorem d_law_716 : decode code 716 = .ok (.iaload, 1) := by decide +kernel
theorem d_law_717 : decode code 717 = .ok (.invokevirtual 88, 3) := by decide +kernel
theorem d_law_720 : decode code 720 = .ok (.if_icmp .eq 405, 3) := by decide +kernel
theorem d_law_725 : decode code 725 = .ok (.aload_n 1, 1) := by decide +kernel
theorem d_law_726 : decode code 726 = .ok (.invokevirtual 89, 3) := by decide +kernel
theorem d_law_729 : decode code 729 = .ok (.aload_n 2, 1) := by decide +kernel
theorem d_law_730 : decode code 730 = .ok (.invokevirtual 92, 3) := by decide +kernel
theorem d_law_733 : decode code 733 = .ok (.if_icmp .eq 392, 3) := by decide +kernel
theorem d_law_738 : decode code 738 = .ok (.aload_n 1, 1) := by decide +kernel
theorem d_law_739 : decode code 739 = .ok (.invokevirtual 93, 3) := by decide +kernel
theorem d_law_742 : decode code 742 = .ok (.aload_n 2, 1) := by decide +kernel
theorem d_law_743 : decode code 743 = .ok (.invokevirtual 96, 3) := by decide +kernel
theorem d_law_746 : decode code 746 = .ok (.if_icmp .eq 379, 3) := by decide +kernel
theorem d_law_751 : decode code 751 = .ok (.aload_n 1, 1) := by decide +kernel
theorem d_law_752 : decode code 752 = .ok (.aload_n 0, 1) := by decide +kernel
theorem d_law_753 : decode code 753 = .ok (.iload_n 3, 1) := by decide +kernel
theorem d_law_754 : decode code 754 = .ok (.iconst 1, 1) := by decide +kernel
theorem d_law_755 : decode code 755 = .ok (.iadd, 1) := by decide +kernel
theorem d_law_756 : decode code 756 = .ok (.iaload, 1) := by decide +kernel
theorem d_law_757 : decode code 757 = .ok (.aload_n 0, 1) := by decide +kernel
theorem d_law_758 : decode code 758 = .ok (.iload_n 3, 1) := by decide +kernel
theorem d_law_759 : decode code 759 = .ok (.iconst 2, 1) := by decide +kernel
theorem d_law_760 : decode code 760 = .ok (.iadd, 1) := by decide +kernel
theorem d_law_761 : decode code 761 = .ok (.iaload, 1) := by decide +kernel
theorem d_law_762 : decode code 762 = .ok (.aload_n 0, 1) := by decide +kernel
theorem d_law_763 : decode code 763 = .ok (.iload_n 3, 1) := by decide +kernel
theorem d_law_764 : decode code 764 = .ok (.iconst 3, 1) := by decide +kernel
theorem d_law_765 : decode code 765 = .ok (.iadd, 1) := by decide +kernel
theorem d_law_766 : decode code 766 = .ok (.iaload, 1) := by decide +kernel
theorem d_law_767 : decode code 767 = .ok (.aload_n 0, 1) := by decide +kernel
theorem d_law_768 : decode code 768 = .ok (.iload_n 3, 1) := by decide +kernel
theorem d_law_769 : decode code 769 = .ok (.iconst 4, 1) := by decide +kernel
theorem d_law_770 : decode code 770 = .ok (.iadd, 1) := by decide +kernel
theorem d_law_771 : decode code 771 = .ok (.iaload, 1) := by decide +kernel
theorem d_law_772 : decode code 772 = .ok (.aload_n 0, 1) := by decide +kernel
theorem d_law_773 : decode code 773 = .ok (.iload_n 3, 1) := by decide +kernel
theorem d_law_774 : decode code 774 = .ok (.iconst 5, 1) := by decide +kernel
theorem d_law_775 : decode code 775 = .ok (.iadd, 1) := by decide +kernel
theorem d_law_776 : decode code 776 = .ok (.iaload, 1) := by decide +kernel
theorem d_law_777 : decode code 777 = .ok (.aload_n 0, 1) := by decide +kernel
theorem d_law_778 : decode code 778 = .ok (.iload_n 3, 1) := by decide +kernel
theorem d_law_779 : decode code 779 = .ok (.bipush 6, 2) := by decide +kernel
theorem d_law_781 : decode code 781 = .ok (.iadd, 1) := by decide +kernel
theorem d_law_782 : decode code 782 = .ok (.iaload, 1) := by decide +kernel
theorem d_law_783 : decode code 783 = .ok (.aload_n 0, 1) := by decide +kernel
theorem d_law_784 : decode code 784 = .ok (.iload_n 3, 1) := by decide +kernel
theorem d_law_785 : decode code 785 = .ok (.bipush 7, 2) := by decide +kernel
theorem d_law_787 : decode code 787 = .ok (.iadd, 1) := by decide +kernel
theorem d_law_788 : decode code 788 = .ok (.iaload, 1) := by decide +kernel
theorem d_law_789 : decode code 789 = .ok (.invokevirtual 97, 3) := by decide +kernel
theorem d_law_792 : decode code 792 = .ok (.aload_n 2, 1) := by decide +kernel
theorem d_law_793 : decode code 793 = .ok (.aload_n 0, 1) := by decide +kernel
theorem d_law_794 : decode code 794 = .ok (.iload_n 3, 1) := by decide +kernel
theorem d_law_795 : decode code 795 = .ok (.iconst 1, 1) := by decide +kernel
theorem d_law_796 : decode code 796 = .ok (.iadd, 1) := by decide +kernel
theorem d_law_797 : decode code 797 = .ok (.iaload, 1) := by decide +kernel
theorem d_law_798 : decode code 798 = .ok (.aload_n 0, 1) := by decide +kernel
theorem d_law_799 : decode code 799 = .ok (.iload_n 3, 1) := by decide +kernel
theorem d_law_800 : decode code 800 = .ok (.iconst 2, 1) := by decide +kernel
theorem d_law_801 : decode code 801 = .ok (.iadd, 1) := by decide +kernel
theorem d_law_802 : decode code 802 = .ok (.iaload, 1) := by decide +kernel
theorem d_law_803 : decode code 803 = .ok (.aload_n 0, 1) := by decide +kernel
theorem d_law_804 : decode code 804 = .ok (.iload_n 3, 1) := by decide +kernel
theorem d_law_805 : decode code 805 = .ok (.iconst 3, 1) := by decide +kernel
theorem d_law_806 : decode code 806 = .ok (.iadd, 1) := by decide +kernel
theorem d_law_807 : decode code 807 = .ok (.iaload, 1) := by decide +kernel
theorem d_law_808 : decode code 808 = .ok (.aload_n 0, 1) := by decide +kernel
theorem d_law_809 : decode code 809 = .ok (.iload_n 3, 1) := by decide +kernel
theorem d_law_810 : decode code 810 = .ok (.iconst 4, 1) := by decide +kernel
theorem d_law_811 : decode code 811 = .ok (.iadd, 1) := by decide +kernel
theorem d_law_812 : decode code 812 = .ok (.iaload, 1) := by decide +kernel
theorem d_law_813 : decode code 813 = .ok (.aload_n 0, 1) := by decide +kernel
theorem d_law_814 : decode code 814 = .ok (.iload_n 3, 1) := by decide +kernel
theorem d_law_815 : decode code 815 = .ok (.iconst 5, 1) := by decide +kernel
theorem d_law_816 : decode code 816 = .ok (.iadd, 1) := by decide +kernel
theorem d_law_817 : decode code 817 = .ok (.iaload, 1) := by decide +kernel
theorem d_law_818 : decode code 818 = .ok (.aload_n 0, 1) := by decide +kernel
theorem d_law_819 : decode code 819 = .ok (.iload_n 3, 1) := by decide +kernel
theorem d_law_820 : decode code 820 = .ok (.bipush 6, 2) := by decide +kernel
theorem d_law_822 : decode code 822 = .ok (.iadd, 1) := by decide +kernel
theorem d_law_823 : decode code 823 = .ok (.iaload, 1) := by decide +kernel
theorem d_law_824 : decode code 824 = .ok (.aload_n 0, 1) := by decide +kernel
theorem d_law_825 : decode code 825 = .ok (.iload_n 3, 1) := by decide +kernel
theorem d_law_826 : decode code 826 = .ok (.bipush 7, 2) := by decide +kernel
theorem d_law_828 : decode code 828 = .ok (.iadd, 1) := by decide +kernel
theorem d_law_829 : decode code 829 = .ok (.iaload, 1) := by decide +kernel
theorem d_law_830 : decode code 830 = .ok (.invokevirtual 101, 3) := by decide +kernel
theorem d_law_833 : decode code 833 = .ok (.if_icmp .eq 292, 3) := by decide +kernel
set_option maxRecDepth 100000 in
set_option maxHeartbeats 4000000 in
theorem law_15 {p : Program} {l : Launch} {e : Env} {s : State} {m : MethodId} {below : List Frame} {meth : Method} {c : Code} {b L : Nat} {xs : Nat → Int32} {D : va_G} {ca : Nat → ClassId} {adX adM : Nat → Nat} (E : lw_E p s m c b D ca adX adM) (hX : va_X b L xs s s.heap) (hbl : b < s.heap.size) {i : Int32} (hi : ∀ k : Nat, k < 8 → vp_in (i + nI k) L) {A : am_A} {cn : Nat} (hcn : cn + 4096 ≤ 1073741824) {H : Heap} {locs : List Loc} {ls : Array Slot} (hl : lv_has ls 4 [(0, .ref b), (1, .ref (adX 0)), (2, .ref (adM 0)), (3, .int i)]) (hSt : lw_St s D ca adX adM (fun I L => CR I L A) (fun I L => MR I L A cn) H locs)
    (kk : ∀ (A2 : am_A) (c2 : Nat) (H2 : Heap) (locs2 : List Loc), c2 ≤ cn + 4096 → lw_St s D ca adX adM (fun I L => CR I L A2) (fun I L => MR I L A2 c2) H2 locs2 → W p l e room_1 s m #[Value.ref b] below meth c H2 locs2 600000 7302250 (lw_Z below #[Value.ref b] s) (F0 m 1125 ls [])) : W p l e room_1 s m #[Value.ref b] below meth c H locs 600000 7302250 (lw_Z below #[Value.ref b] s) (F0 m 659 ls []) := by
  obtain ⟨hx, hb, hml, hown, hU, hN, hK, hD⟩ := id E
  have hbA : ¬ (fun q : Nat => s.heap.size ≤ q) b := Nat.not_le.mpr hbl
  have hS := hSt.S
  have hi1 : vp_in (i + 1) L := hi 1 (by omega)
  refine lv_aload_n hx hb d_law_659 rfl (lv_at hl 1 rfl) ?_
  refine lv_aload_n hx hb d_law_660 rfl (lv_at hl 0 rfl) ?_
  refine lv_iload_n hx hb d_law_661 rfl (lv_at hl 3 rfl) ?_
  refine lv_iconst (v := 1) hx hb d_law_662 (by decide) ?_
  refine lv_iadd hx hb d_law_663 ?_
  refine va_sld hx hb hX hbl hbA hS hi1 d_law_664 ?_
  refine lw_cX E (n := 1) met_RP_next (am_pos 488 (by decide +kernel) rfl) (am_pos 489 (by decide +kernel) rfl) (am_pos 490 (by decide +kernel) rfl) (am_pos 35 (by decide +kernel) rfl) (am_pos 491 (by decide +kernel) rfl) ⟨by decide +kernel, by decide +kernel, by decide +kernel⟩ rfl rfl ⟨Nat.le_of_ble_eq_true rfl, Nat.le_of_ble_eq_true rfl⟩ rfl (t := [.int (xs (i + 1).toNatClampNeg)]) (r := []) (PX' := fun I L => CR I L (o_next A ((xs (i + 1).toNatClampNeg))).2) (rv := (o_next A ((xs (i + 1).toNatClampNeg))).1) d_law_665 rfl rfl (Nat.le_of_ble_eq_true rfl) hl.1 (fun I L hC => ⟨rfl, A, hC, fun I2 L2 h => ⟨rfl, h⟩⟩) hSt ⟨Nat.le_refl _, Nat.le_refl _⟩ (fun H locs hSt => ?_)
  have hS := hSt.S
  refine lv_aload_n hx hb d_law_668 rfl (lv_at hl 2 rfl) ?_
  refine lv_aload_n hx hb d_law_669 rfl (lv_at hl 0 rfl) ?_
  refine lv_iload_n hx hb d_law_670 rfl (lv_at hl 3 rfl) ?_
  refine lv_iconst (v := 1) hx hb d_law_671 (by decide) ?_
  refine lv_iadd hx hb d_law_672 ?_
  refine va_sld hx hb hX hbl hbA hS hi1 d_law_673 ?_
  refine lw_cM E (n := 1) met_MD_next (am_pos 830 (by decide +kernel) rfl) (am_pos 831 (by decide +kernel) rfl) (am_pos 832 (by decide +kernel) rfl) (am_pos 41 (by decide +kernel) rfl) (am_pos 833 (by decide +kernel) rfl) ⟨by decide +kernel, by decide +kernel, by decide +kernel⟩ rfl rfl ⟨Nat.le_of_ble_eq_true rfl, Nat.le_of_ble_eq_true rfl⟩ rfl (t := [.int (xs (i + 1).toNatClampNeg)]) (r := [.int ((o_next A ((xs (i + 1).toNatClampNeg))).1)]) (PM' := fun I L => ∃ c2, c2 ≤ cn + 4096 ∧ MR I L (o_next A ((xs (i + 1).toNatClampNeg))).2 c2) (rv := (o_next A ((xs (i + 1).toNatClampNeg))).1) d_law_674 rfl rfl (Nat.le_of_ble_eq_true rfl) hl.1 (fun I L hC => ⟨rfl, A, cn, hC, hcn, fun I2 L2 c2 h1 h2 => ⟨rfl, c2, h1, h2⟩⟩) hSt ⟨Nat.le_refl _, Nat.le_refl _⟩ (fun H locs hSt => ?_)
  have hS := hSt.S
  refine lv_icmp_eq (tgt := 1125) hx hb d_law_677 (by decide) (fun _ => ?_) (fun q => absurd rfl q)
  obtain ⟨IX, LX, IM, LM, a1, ⟨c2, b1, b2⟩, a3, a4, a5⟩ := hSt
  exact kk _ c2 _ _ b1 ⟨IX, LX, IM, LM, a1, b2, a3, a4, a5⟩
set_option maxRecDepth 100000 in
set_option maxHeartbeats 4000000 in
theorem law_16 {p : Program} {l : Launch} {e : Env} {s : State} {m : MethodId} {below : List Frame} {meth : Method} {c : Code} {b L : Nat} {xs : Nat → Int32} {D : va_G} {ca : Nat → ClassId} {adX adM : Nat → Nat} (E : lw_E p s m c b D ca adX adM) (hX : va_X b L xs s s.heap) (hbl : b < s.heap.size) {i : Int32} (hi : ∀ k : Nat, k < 8 → vp_in (i + nI k) L) {A : am_A} {cn : Nat} (hcn : cn + 4096 ≤ 1073741824) {H : Heap} {locs : List Loc} {ls : Array Slot} (hl : lv_has ls 4 [(0, .ref b), (1, .ref (adX 0)), (2, .ref (adM 0)), (3, .int i)]) (hSt : lw_St s D ca adX adM (fun I L => CR I L A) (fun I L => MR I L A cn) H locs)
    (kk : ∀ (A2 : am_A) (c2 : Nat) (H2 : Heap) (locs2 : List Loc), c2 ≤ cn + 4096 → lw_St s D ca adX adM (fun I L => CR I L A2) (fun I L => MR I L A2 c2) H2 locs2 → W p l e room_1 s m #[Value.ref b] below meth c H2 locs2 600000 7302250 (lw_Z below #[Value.ref b] s) (F0 m 1125 ls [])) : W p l e room_1 s m #[Value.ref b] below meth c H locs 600000 7302250 (lw_Z below #[Value.ref b] s) (F0 m 682 ls []) := by
  obtain ⟨hx, hb, hml, hown, hU, hN, hK, hD⟩ := id E
  have hbA : ¬ (fun q : Nat => s.heap.size ≤ q) b := Nat.not_le.mpr hbl
  have hS := hSt.S
  have hi1 : vp_in (i + 1) L := hi 1 (by omega)
  have hi2 : vp_in (i + 2) L := hi 2 (by omega)
  have hi3 : vp_in (i + 3) L := hi 3 (by omega)
  refine lv_aload_n hx hb d_law_682 rfl (lv_at hl 1 rfl) ?_
  refine lv_aload_n hx hb d_law_683 rfl (lv_at hl 0 rfl) ?_
  refine lv_iload_n hx hb d_law_684 rfl (lv_at hl 3 rfl) ?_
  refine lv_iconst (v := 1) hx hb d_law_685 (by decide) ?_
  refine lv_iadd hx hb d_law_686 ?_
  refine va_sld hx hb hX hbl hbA hS hi1 d_law_687 ?_
  refine lv_aload_n hx hb d_law_688 rfl (lv_at hl 0 rfl) ?_
  refine lv_iload_n hx hb d_law_689 rfl (lv_at hl 3 rfl) ?_
  refine lv_iconst (v := 2) hx hb d_law_690 (by decide) ?_
  refine lv_iadd hx hb d_law_691 ?_
  refine va_sld hx hb hX hbl hbA hS hi2 d_law_692 ?_
  refine lv_aload_n hx hb d_law_693 rfl (lv_at hl 0 rfl) ?_
  refine lv_iload_n hx hb d_law_694 rfl (lv_at hl 3 rfl) ?_
  refine lv_iconst (v := 3) hx hb d_law_695 (by decide) ?_
  refine lv_iadd hx hb d_law_696 ?_
  refine va_sld hx hb hX hbl hbA hS hi3 d_law_697 ?_
  refine lw_cX E (n := 3) met_RP_struck (am_pos 492 (by decide +kernel) rfl) (am_pos 493 (by decide +kernel) rfl) (am_pos 494 (by decide +kernel) rfl) (am_pos 35 (by decide +kernel) rfl) (am_pos 495 (by decide +kernel) rfl) ⟨by decide +kernel, by decide +kernel, by decide +kernel⟩ rfl rfl ⟨Nat.le_of_ble_eq_true rfl, Nat.le_of_ble_eq_true rfl⟩ rfl (t := [.int (xs (i + 1).toNatClampNeg), .int (xs (i + 2).toNatClampNeg), .int (xs (i + 3).toNatClampNeg)]) (r := []) (PX' := fun I L => CR I L (o_struck A ((xs (i + 1).toNatClampNeg)) ((xs (i + 2).toNatClampNeg)) ((xs (i + 3).toNatClampNeg))).2) (rv := (o_struck A ((xs (i + 1).toNatClampNeg)) ((xs (i + 2).toNatClampNeg)) ((xs (i + 3).toNatClampNeg))).1) d_law_698 rfl rfl (Nat.le_of_ble_eq_true rfl) hl.1 (fun I L hC => ⟨rfl, A, hC, fun I2 L2 h => ⟨rfl, h⟩⟩) hSt ⟨Nat.le_refl _, Nat.le_refl _⟩ (fun H locs hSt => ?_)
  have hS := hSt.S
  refine lv_aload_n hx hb d_law_701 rfl (lv_at hl 2 rfl) ?_
  refine lv_aload_n hx hb d_law_702 rfl (lv_at hl 0 rfl) ?_
  refine lv_iload_n hx hb d_law_703 rfl (lv_at hl 3 rfl) ?_
  refine lv_iconst (v := 1) hx hb d_law_704 (by decide) ?_
  refine lv_iadd hx hb d_law_705 ?_
  refine va_sld hx hb hX hbl hbA hS hi1 d_law_706 ?_
  refine lv_aload_n hx hb d_law_707 rfl (lv_at hl 0 rfl) ?_
  refine lv_iload_n hx hb d_law_708 rfl (lv_at hl 3 rfl) ?_
  refine lv_iconst (v := 2) hx hb d_law_709 (by decide) ?_
  refine lv_iadd hx hb d_law_710 ?_
  refine va_sld hx hb hX hbl hbA hS hi2 d_law_711 ?_
  refine lv_aload_n hx hb d_law_712 rfl (lv_at hl 0 rfl) ?_
  refine lv_iload_n hx hb d_law_713 rfl (lv_at hl 3 rfl) ?_
  refine lv_iconst (v := 3) hx hb d_law_714 (by decide) ?_
  refine lv_iadd hx hb d_law_715 ?_
  refine va_sld hx hb hX hbl hbA hS hi3 d_law_716 ?_
  refine lw_cM E (n := 3) met_MD_struck (am_pos 834 (by decide +kernel) rfl) (am_pos 835 (by decide +kernel) rfl) (am_pos 836 (by decide +kernel) rfl) (am_pos 41 (by decide +kernel) rfl) (am_pos 837 (by decide +kernel) rfl) ⟨by decide +kernel, by decide +kernel, by decide +kernel⟩ rfl rfl ⟨Nat.le_of_ble_eq_true rfl, Nat.le_of_ble_eq_true rfl⟩ rfl (t := [.int (xs (i + 1).toNatClampNeg), .int (xs (i + 2).toNatClampNeg), .int (xs (i + 3).toNatClampNeg)]) (r := [.int ((o_struck A ((xs (i + 1).toNatClampNeg)) ((xs (i + 2).toNatClampNeg)) ((xs (i + 3).toNatClampNeg))).1)]) (PM' := fun I L => ∃ c2, c2 ≤ cn + 4096 ∧ MR I L (o_struck A ((xs (i + 1).toNatClampNeg)) ((xs (i + 2).toNatClampNeg)) ((xs (i + 3).toNatClampNeg))).2 c2) (rv := (o_struck A ((xs (i + 1).toNatClampNeg)) ((xs (i + 2).toNatClampNeg)) ((xs (i + 3).toNatClampNeg))).1) d_law_717 rfl rfl (Nat.le_of_ble_eq_true rfl) hl.1 (fun I L hC => ⟨rfl, A, cn, hC, hcn, fun I2 L2 c2 h1 h2 => ⟨rfl, c2, h1, h2⟩⟩) hSt ⟨Nat.le_refl _, Nat.le_refl _⟩ (fun H locs hSt => ?_)
  have hS := hSt.S
  refine lv_icmp_eq (tgt := 1125) hx hb d_law_720 (by decide) (fun _ => ?_) (fun q => absurd rfl q)
  obtain ⟨IX, LX, IM, LM, a1, ⟨c2, b1, b2⟩, a3, a4, a5⟩ := hSt
  exact kk _ c2 _ _ b1 ⟨IX, LX, IM, LM, a1, b2, a3, a4, a5⟩
set_option maxRecDepth 100000 in
set_option maxHeartbeats 4000000 in
theorem law_17 {p : Program} {l : Launch} {e : Env} {s : State} {m : MethodId} {below : List Frame} {meth : Method} {c : Code} {b L : Nat} {xs : Nat → Int32} {D : va_G} {ca : Nat → ClassId} {adX adM : Nat → Nat} (E : lw_E p s m c b D ca adX adM) (hX : va_X b L xs s s.heap) (hbl : b < s.heap.size) {i : Int32} (hi : ∀ k : Nat, k < 8 → vp_in (i + nI k) L) {A : am_A} {cn : Nat} (hcn : cn + 4096 ≤ 1073741824) {H : Heap} {locs : List Loc} {ls : Array Slot} (hl : lv_has ls 4 [(0, .ref b), (1, .ref (adX 0)), (2, .ref (adM 0)), (3, .int i)]) (hSt : lw_St s D ca adX adM (fun I L => CR I L A) (fun I L => MR I L A cn) H locs)
    (kk : ∀ (A2 : am_A) (c2 : Nat) (H2 : Heap) (locs2 : List Loc), c2 ≤ cn + 4096 → lw_St s D ca adX adM (fun I L => CR I L A2) (fun I L => MR I L A2 c2) H2 locs2 → W p l e room_1 s m #[Value.ref b] below meth c H2 locs2 600000 7302250 (lw_Z below #[Value.ref b] s) (F0 m 1125 ls [])) : W p l e room_1 s m #[Value.ref b] below meth c H locs 600000 7302250 (lw_Z below #[Value.ref b] s) (F0 m 725 ls []) := by
  obtain ⟨hx, hb, hml, hown, hU, hN, hK, hD⟩ := id E
  have hbA : ¬ (fun q : Nat => s.heap.size ≤ q) b := Nat.not_le.mpr hbl
  have hS := hSt.S
  refine lv_aload_n hx hb d_law_725 rfl (lv_at hl 1 rfl) ?_
  refine lw_cX E (n := 0) met_RP_image (am_pos 500 (by decide +kernel) rfl) (am_pos 501 (by decide +kernel) rfl) (am_pos 502 (by decide +kernel) rfl) (am_pos 35 (by decide +kernel) rfl) (am_pos 503 (by decide +kernel) rfl) ⟨by decide +kernel, by decide +kernel, by decide +kernel⟩ rfl rfl ⟨Nat.le_of_ble_eq_true rfl, Nat.le_of_ble_eq_true rfl⟩ rfl (t := []) (r := []) (PX' := fun I L => CR I L (o_image A ).2) (rv := (o_image A ).1) d_law_726 rfl rfl (Nat.le_of_ble_eq_true rfl) hl.1 (fun I L hC => ⟨rfl, A, hC, fun I2 L2 h => ⟨rfl, h⟩⟩) hSt ⟨Nat.le_refl _, Nat.le_refl _⟩ (fun H locs hSt => ?_)
  have hS := hSt.S
  refine lv_aload_n hx hb d_law_729 rfl (lv_at hl 2 rfl) ?_
  refine lw_cM E (n := 0) met_MD_image (am_pos 838 (by decide +kernel) rfl) (am_pos 839 (by decide +kernel) rfl) (am_pos 840 (by decide +kernel) rfl) (am_pos 41 (by decide +kernel) rfl) (am_pos 841 (by decide +kernel) rfl) ⟨by decide +kernel, by decide +kernel, by decide +kernel⟩ rfl rfl ⟨Nat.le_of_ble_eq_true rfl, Nat.le_of_ble_eq_true rfl⟩ rfl (t := []) (r := [.int ((o_image A ).1)]) (PM' := fun I L => ∃ c2, c2 ≤ cn + 4096 ∧ MR I L (o_image A ).2 c2) (rv := (o_image A ).1) d_law_730 rfl rfl (Nat.le_of_ble_eq_true rfl) hl.1 (fun I L hC => ⟨rfl, A, cn, hC, hcn, fun I2 L2 c2 h1 h2 => ⟨rfl, c2, h1, h2⟩⟩) hSt ⟨Nat.le_refl _, Nat.le_refl _⟩ (fun H locs hSt => ?_)
  have hS := hSt.S
  refine lv_icmp_eq (tgt := 1125) hx hb d_law_733 (by decide) (fun _ => ?_) (fun q => absurd rfl q)
  obtain ⟨IX, LX, IM, LM, a1, ⟨c2, b1, b2⟩, a3, a4, a5⟩ := hSt
  exact kk _ c2 _ _ b1 ⟨IX, LX, IM, LM, a1, b2, a3, a4, a5⟩
set_option maxRecDepth 100000 in
set_option maxHeartbeats 4000000 in
theorem law_18 {p : Program} {l : Launch} {e : Env} {s : State} {m : MethodId} {below : List Frame} {meth : Method} {c : Code} {b L : Nat} {xs : Nat → Int32} {D : va_G} {ca : Nat → ClassId} {adX adM : Nat → Nat} (E : lw_E p s m c b D ca adX adM) (hX : va_X b L xs s s.heap) (hbl : b < s.heap.size) {i : Int32} (hi : ∀ k : Nat, k < 8 → vp_in (i + nI k) L) {A : am_A} {cn : Nat} (hcn : cn + 4096 ≤ 1073741824) {H : Heap} {locs : List Loc} {ls : Array Slot} (hl : lv_has ls 4 [(0, .ref b), (1, .ref (adX 0)), (2, .ref (adM 0)), (3, .int i)]) (hSt : lw_St s D ca adX adM (fun I L => CR I L A) (fun I L => MR I L A cn) H locs)
    (kk : ∀ (A2 : am_A) (c2 : Nat) (H2 : Heap) (locs2 : List Loc), c2 ≤ cn + 4096 → lw_St s D ca adX adM (fun I L => CR I L A2) (fun I L => MR I L A2 c2) H2 locs2 → W p l e room_1 s m #[Value.ref b] below meth c H2 locs2 600000 7302250 (lw_Z below #[Value.ref b] s) (F0 m 1125 ls [])) : W p l e room_1 s m #[Value.ref b] below meth c H locs 600000 7302250 (lw_Z below #[Value.ref b] s) (F0 m 738 ls []) := by
  obtain ⟨hx, hb, hml, hown, hU, hN, hK, hD⟩ := id E
  have hbA : ¬ (fun q : Nat => s.heap.size ≤ q) b := Nat.not_le.mpr hbl
  have hS := hSt.S
  refine lv_aload_n hx hb d_law_738 rfl (lv_at hl 1 rfl) ?_
  refine lw_cX E (n := 0) met_RP_restore (am_pos 504 (by decide +kernel) rfl) (am_pos 505 (by decide +kernel) rfl) (am_pos 506 (by decide +kernel) rfl) (am_pos 35 (by decide +kernel) rfl) (am_pos 507 (by decide +kernel) rfl) ⟨by decide +kernel, by decide +kernel, by decide +kernel⟩ rfl rfl ⟨Nat.le_of_ble_eq_true rfl, Nat.le_of_ble_eq_true rfl⟩ rfl (t := []) (r := []) (PX' := fun I L => CR I L (o_restore A ).2) (rv := (o_restore A ).1) d_law_739 rfl rfl (Nat.le_of_ble_eq_true rfl) hl.1 (fun I L hC => ⟨rfl, A, hC, fun I2 L2 h => ⟨rfl, h⟩⟩) hSt ⟨Nat.le_refl _, Nat.le_refl _⟩ (fun H locs hSt => ?_)
  have hS := hSt.S
  refine lv_aload_n hx hb d_law_742 rfl (lv_at hl 2 rfl) ?_
  refine lw_cM E (n := 0) met_MD_restore (am_pos 842 (by decide +kernel) rfl) (am_pos 843 (by decide +kernel) rfl) (am_pos 844 (by decide +kernel) rfl) (am_pos 41 (by decide +kernel) rfl) (am_pos 845 (by decide +kernel) rfl) ⟨by decide +kernel, by decide +kernel, by decide +kernel⟩ rfl rfl ⟨Nat.le_of_ble_eq_true rfl, Nat.le_of_ble_eq_true rfl⟩ rfl (t := []) (r := [.int ((o_restore A ).1)]) (PM' := fun I L => ∃ c2, c2 ≤ cn + 4096 ∧ MR I L (o_restore A ).2 c2) (rv := (o_restore A ).1) d_law_743 rfl rfl (Nat.le_of_ble_eq_true rfl) hl.1 (fun I L hC => ⟨rfl, A, cn, hC, hcn, fun I2 L2 c2 h1 h2 => ⟨rfl, c2, h1, h2⟩⟩) hSt ⟨Nat.le_refl _, Nat.le_refl _⟩ (fun H locs hSt => ?_)
  have hS := hSt.S
  refine lv_icmp_eq (tgt := 1125) hx hb d_law_746 (by decide) (fun _ => ?_) (fun q => absurd rfl q)
  obtain ⟨IX, LX, IM, LM, a1, ⟨c2, b1, b2⟩, a3, a4, a5⟩ := hSt
  exact kk _ c2 _ _ b1 ⟨IX, LX, IM, LM, a1, b2, a3, a4, a5⟩
set_option maxRecDepth 100000 in
set_option maxHeartbeats 4000000 in
theorem law_19 {p : Program} {l : Launch} {e : Env} {s : State} {m : MethodId} {below : List Frame} {meth : Method} {c : Code} {b L : Nat} {xs : Nat → Int32} {D : va_G} {ca : Nat → ClassId} {adX adM : Nat → Nat} (E : lw_E p s m c b D ca adX adM) (hX : va_X b L xs s s.heap) (hbl : b < s.heap.size) {i : Int32} (hi : ∀ k : Nat, k < 8 → vp_in (i + nI k) L) {A : am_A} {cn : Nat} (hcn : cn + 4096 ≤ 1073741824) {H : Heap} {locs : List Loc} {ls : Array Slot} (hl : lv_has ls 4 [(0, .ref b), (1, .ref (adX 0)), (2, .ref (adM 0)), (3, .int i)]) (hSt : lw_St s D ca adX adM (fun I L => CR I L A) (fun I L => MR I L A cn) H locs)
    (kk : ∀ (A2 : am_A) (c2 : Nat) (H2 : Heap) (locs2 : List Loc), c2 ≤ cn + 4096 → lw_St s D ca adX adM (fun I L => CR I L A2) (fun I L => MR I L A2 c2) H2 locs2 → W p l e room_1 s m #[Value.ref b] below meth c H2 locs2 600000 7302250 (lw_Z below #[Value.ref b] s) (F0 m 1125 ls [])) : W p l e room_1 s m #[Value.ref b] below meth c H locs 600000 7302250 (lw_Z below #[Value.ref b] s) (F0 m 751 ls []) := by
  obtain ⟨hx, hb, hml, hown, hU, hN, hK, hD⟩ := id E
  have hbA : ¬ (fun q : Nat => s.heap.size ≤ q) b := Nat.not_le.mpr hbl
  have hS := hSt.S
  have hi1 : vp_in (i + 1) L := hi 1 (by omega)
  have hi2 : vp_in (i + 2) L := hi 2 (by omega)
  have hi3 : vp_in (i + 3) L := hi 3 (by omega)
  have hi4 : vp_in (i + 4) L := hi 4 (by omega)
  have hi5 : vp_in (i + 5) L := hi 5 (by omega)
  have hi6 : vp_in (i + 6) L := hi 6 (by omega)
  have hi7 : vp_in (i + 7) L := hi 7 (by omega)
  refine lv_aload_n hx hb d_law_751 rfl (lv_at hl 1 rfl) ?_
  refine lv_aload_n hx hb d_law_752 rfl (lv_at hl 0 rfl) ?_
  refine lv_iload_n hx hb d_law_753 rfl (lv_at hl 3 rfl) ?_
  refine lv_iconst (v := 1) hx hb d_law_754 (by decide) ?_
  refine lv_iadd hx hb d_law_755 ?_
  refine va_sld hx hb hX hbl hbA hS hi1 d_law_756 ?_
  refine lv_aload_n hx hb d_law_757 rfl (lv_at hl 0 rfl) ?_
  refine lv_iload_n hx hb d_law_758 rfl (lv_at hl 3 rfl) ?_
  refine lv_iconst (v := 2) hx hb d_law_759 (by decide) ?_
  refine lv_iadd hx hb d_law_760 ?_
  refine va_sld hx hb hX hbl hbA hS hi2 d_law_761 ?_
  refine lv_aload_n hx hb d_law_762 rfl (lv_at hl 0 rfl) ?_
  refine lv_iload_n hx hb d_law_763 rfl (lv_at hl 3 rfl) ?_
  refine lv_iconst (v := 3) hx hb d_law_764 (by decide) ?_
  refine lv_iadd hx hb d_law_765 ?_
  refine va_sld hx hb hX hbl hbA hS hi3 d_law_766 ?_
  refine lv_aload_n hx hb d_law_767 rfl (lv_at hl 0 rfl) ?_
  refine lv_iload_n hx hb d_law_768 rfl (lv_at hl 3 rfl) ?_
  refine lv_iconst (v := 4) hx hb d_law_769 (by decide) ?_
  refine lv_iadd hx hb d_law_770 ?_
  refine va_sld hx hb hX hbl hbA hS hi4 d_law_771 ?_
  refine lv_aload_n hx hb d_law_772 rfl (lv_at hl 0 rfl) ?_
  refine lv_iload_n hx hb d_law_773 rfl (lv_at hl 3 rfl) ?_
  refine lv_iconst (v := 5) hx hb d_law_774 (by decide) ?_
  refine lv_iadd hx hb d_law_775 ?_
  refine va_sld hx hb hX hbl hbA hS hi5 d_law_776 ?_
  refine lv_aload_n hx hb d_law_777 rfl (lv_at hl 0 rfl) ?_
  refine lv_iload_n hx hb d_law_778 rfl (lv_at hl 3 rfl) ?_
  refine lv_bipush (v := 6) hx hb d_law_779 (by decide) ?_
  refine lv_iadd hx hb d_law_781 ?_
  refine va_sld hx hb hX hbl hbA hS hi6 d_law_782 ?_
  refine lv_aload_n hx hb d_law_783 rfl (lv_at hl 0 rfl) ?_
  refine lv_iload_n hx hb d_law_784 rfl (lv_at hl 3 rfl) ?_
  refine lv_bipush (v := 7) hx hb d_law_785 (by decide) ?_
  refine lv_iadd hx hb d_law_787 ?_
  refine va_sld hx hb hX hbl hbA hS hi7 d_law_788 ?_
  refine lw_cX E (n := 7) met_RP_track (am_pos 508 (by decide +kernel) rfl) (am_pos 509 (by decide +kernel) rfl) (am_pos 510 (by decide +kernel) rfl) (am_pos 35 (by decide +kernel) rfl) (am_pos 511 (by decide +kernel) rfl) ⟨by decide +kernel, by decide +kernel, by decide +kernel⟩ rfl rfl ⟨Nat.le_of_ble_eq_true rfl, Nat.le_of_ble_eq_true rfl⟩ rfl (t := [.int (xs (i + 1).toNatClampNeg), .int (xs (i + 2).toNatClampNeg), .int (xs (i + 3).toNatClampNeg), .int (xs (i + 4).toNatClampNeg), .int (xs (i + 5).toNatClampNeg), .int (xs (i + 6).toNatClampNeg), .int (xs (i + 7).toNatClampNeg)]) (r := []) (PX' := fun I L => CR I L (o_track A ((xs (i + 1).toNatClampNeg)) ((xs (i + 2).toNatClampNeg)) ((xs (i + 3).toNatClampNeg)) ((xs (i + 4).toNatClampNeg)) ((xs (i + 5).toNatClampNeg)) ((xs (i + 6).toNatClampNeg)) ((xs (i + 7).toNatClampNeg))).2) (rv := (o_track A ((xs (i + 1).toNatClampNeg)) ((xs (i + 2).toNatClampNeg)) ((xs (i + 3).toNatClampNeg)) ((xs (i + 4).toNatClampNeg)) ((xs (i + 5).toNatClampNeg)) ((xs (i + 6).toNatClampNeg)) ((xs (i + 7).toNatClampNeg))).1) d_law_789 rfl rfl (Nat.le_of_ble_eq_true rfl) hl.1 (fun I L hC => ⟨rfl, A, hC, fun I2 L2 h => ⟨rfl, h⟩⟩) hSt ⟨Nat.le_refl _, Nat.le_refl _⟩ (fun H locs hSt => ?_)
  have hS := hSt.S
  refine lv_aload_n hx hb d_law_792 rfl (lv_at hl 2 rfl) ?_
  refine lv_aload_n hx hb d_law_793 rfl (lv_at hl 0 rfl) ?_
  refine lv_iload_n hx hb d_law_794 rfl (lv_at hl 3 rfl) ?_
  refine lv_iconst (v := 1) hx hb d_law_795 (by decide) ?_
  refine lv_iadd hx hb d_law_796 ?_
  refine va_sld hx hb hX hbl hbA hS hi1 d_law_797 ?_
  refine lv_aload_n hx hb d_law_798 rfl (lv_at hl 0 rfl) ?_
  refine lv_iload_n hx hb d_law_799 rfl (lv_at hl 3 rfl) ?_
  refine lv_iconst (v := 2) hx hb d_law_800 (by decide) ?_
  refine lv_iadd hx hb d_law_801 ?_
  refine va_sld hx hb hX hbl hbA hS hi2 d_law_802 ?_
  refine lv_aload_n hx hb d_law_803 rfl (lv_at hl 0 rfl) ?_
  refine lv_iload_n hx hb d_law_804 rfl (lv_at hl 3 rfl) ?_
  refine lv_iconst (v := 3) hx hb d_law_805 (by decide) ?_
  refine lv_iadd hx hb d_law_806 ?_
  refine va_sld hx hb hX hbl hbA hS hi3 d_law_807 ?_
  refine lv_aload_n hx hb d_law_808 rfl (lv_at hl 0 rfl) ?_
  refine lv_iload_n hx hb d_law_809 rfl (lv_at hl 3 rfl) ?_
  refine lv_iconst (v := 4) hx hb d_law_810 (by decide) ?_
  refine lv_iadd hx hb d_law_811 ?_
  refine va_sld hx hb hX hbl hbA hS hi4 d_law_812 ?_
  refine lv_aload_n hx hb d_law_813 rfl (lv_at hl 0 rfl) ?_
  refine lv_iload_n hx hb d_law_814 rfl (lv_at hl 3 rfl) ?_
  refine lv_iconst (v := 5) hx hb d_law_815 (by decide) ?_
  refine lv_iadd hx hb d_law_816 ?_
  refine va_sld hx hb hX hbl hbA hS hi5 d_law_817 ?_
  refine lv_aload_n hx hb d_law_818 rfl (lv_at hl 0 rfl) ?_
  refine lv_iload_n hx hb d_law_819 rfl (lv_at hl 3 rfl) ?_
  refine lv_bipush (v := 6) hx hb d_law_820 (by decide) ?_
  refine lv_iadd hx hb d_law_822 ?_
  refine va_sld hx hb hX hbl hbA hS hi6 d_law_823 ?_
  refine lv_aload_n hx hb d_law_824 rfl (lv_at hl 0 rfl) ?_
  refine lv_iload_n hx hb d_law_825 rfl (lv_at hl 3 rfl) ?_
  refine lv_bipush (v := 7) hx hb d_law_826 (by decide) ?_
  refine lv_iadd hx hb d_law_828 ?_
  refine va_sld hx hb hX hbl hbA hS hi7 d_law_829 ?_
  refine lw_cM E (n := 7) met_MD_track (am_pos 846 (by decide +kernel) rfl) (am_pos 847 (by decide +kernel) rfl) (am_pos 848 (by decide +kernel) rfl) (am_pos 41 (by decide +kernel) rfl) (am_pos 849 (by decide +kernel) rfl) ⟨by decide +kernel, by decide +kernel, by decide +kernel⟩ rfl rfl ⟨Nat.le_of_ble_eq_true rfl, Nat.le_of_ble_eq_true rfl⟩ rfl (t := [.int (xs (i + 1).toNatClampNeg), .int (xs (i + 2).toNatClampNeg), .int (xs (i + 3).toNatClampNeg), .int (xs (i + 4).toNatClampNeg), .int (xs (i + 5).toNatClampNeg), .int (xs (i + 6).toNatClampNeg), .int (xs (i + 7).toNatClampNeg)]) (r := [.int ((o_track A ((xs (i + 1).toNatClampNeg)) ((xs (i + 2).toNatClampNeg)) ((xs (i + 3).toNatClampNeg)) ((xs (i + 4).toNatClampNeg)) ((xs (i + 5).toNatClampNeg)) ((xs (i + 6).toNatClampNeg)) ((xs (i + 7).toNatClampNeg))).1)]) (PM' := fun I L => ∃ c2, c2 ≤ cn + 4096 ∧ MR I L (o_track A ((xs (i + 1).toNatClampNeg)) ((xs (i + 2).toNatClampNeg)) ((xs (i + 3).toNatClampNeg)) ((xs (i + 4).toNatClampNeg)) ((xs (i + 5).toNatClampNeg)) ((xs (i + 6).toNatClampNeg)) ((xs (i + 7).toNatClampNeg))).2 c2) (rv := (o_track A ((xs (i + 1).toNatClampNeg)) ((xs (i + 2).toNatClampNeg)) ((xs (i + 3).toNatClampNeg)) ((xs (i + 4).toNatClampNeg)) ((xs (i + 5).toNatClampNeg)) ((xs (i + 6).toNatClampNeg)) ((xs (i + 7).toNatClampNeg))).1) d_law_830 rfl rfl (Nat.le_of_ble_eq_true rfl) hl.1 (fun I L hC => ⟨rfl, A, cn, hC, hcn, fun I2 L2 c2 h1 h2 => ⟨rfl, c2, h1, h2⟩⟩) hSt ⟨Nat.le_refl _, Nat.le_refl _⟩ (fun H locs hSt => ?_)
  have hS := hSt.S
  refine lv_icmp_eq (tgt := 1125) hx hb d_law_833 (by decide) (fun _ => ?_) (fun q => absurd rfl q)
  obtain ⟨IX, LX, IM, LM, a1, ⟨c2, b1, b2⟩, a3, a4, a5⟩ := hSt
  exact kk _ c2 _ _ b1 ⟨IX, LX, IM, LM, a1, b2, a3, a4, a5⟩
