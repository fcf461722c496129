theorem dL_law_580 : decode cL_law 580 = .ok (.aload_n 1, 1) := by decide +kernel
theorem dL_law_581 : decode cL_law 581 = .ok (.aload_n 0, 1) := by decide +kernel
theorem dL_law_582 : decode cL_law 582 = .ok (.iload 4, 2) := by decide +kernel
theorem dL_law_584 : decode cL_law 584 = .ok (.iconst 1, 1) := by decide +kernel
theorem dL_law_585 : decode cL_law 585 = .ok (.iadd, 1) := by decide +kernel
theorem dL_law_586 : decode cL_law 586 = .ok (.iaload, 1) := by decide +kernel
theorem dL_law_587 : decode cL_law 587 = .ok (.aload_n 0, 1) := by decide +kernel
theorem dL_law_588 : decode cL_law 588 = .ok (.iload 4, 2) := by decide +kernel
theorem dL_law_590 : decode cL_law 590 = .ok (.iconst 2, 1) := by decide +kernel
theorem dL_law_591 : decode cL_law 591 = .ok (.iadd, 1) := by decide +kernel
theorem dL_law_592 : decode cL_law 592 = .ok (.iaload, 1) := by decide +kernel
theorem dL_law_593 : decode cL_law 593 = .ok (.aload_n 0, 1) := by decide +kernel
theorem dL_law_594 : decode cL_law 594 = .ok (.iload 4, 2) := by decide +kernel
theorem dL_law_596 : decode cL_law 596 = .ok (.iconst 3, 1) := by decide +kernel
theorem dL_law_597 : decode cL_law 597 = .ok (.iadd, 1) := by decide +kernel
theorem dL_law_598 : decode cL_law 598 = .ok (.iaload, 1) := by decide +kernel
theorem dL_law_599 : decode cL_law 599 = .ok (.aload_n 3, 1) := by decide +kernel
theorem dL_law_600 : decode cL_law 600 = .ok (.invokestatic 113, 3) := by decide +kernel
theorem dL_law_603 : decode cL_law 603 = .ok (.istore 5, 2) := by decide +kernel
theorem dL_law_605 : decode cL_law 605 = .ok (.aload_n 2, 1) := by decide +kernel
theorem dL_law_606 : decode cL_law 606 = .ok (.aload_n 0, 1) := by decide +kernel
theorem dL_law_607 : decode cL_law 607 = .ok (.iload 4, 2) := by decide +kernel
theorem dL_law_609 : decode cL_law 609 = .ok (.iconst 1, 1) := by decide +kernel
theorem dL_law_610 : decode cL_law 610 = .ok (.iadd, 1) := by decide +kernel
theorem dL_law_611 : decode cL_law 611 = .ok (.iaload, 1) := by decide +kernel
theorem dL_law_612 : decode cL_law 612 = .ok (.aload_n 0, 1) := by decide +kernel
theorem dL_law_613 : decode cL_law 613 = .ok (.iload 4, 2) := by decide +kernel
theorem dL_law_615 : decode cL_law 615 = .ok (.iconst 2, 1) := by decide +kernel
theorem dL_law_616 : decode cL_law 616 = .ok (.iadd, 1) := by decide +kernel
theorem dL_law_617 : decode cL_law 617 = .ok (.iaload, 1) := by decide +kernel
theorem dL_law_618 : decode cL_law 618 = .ok (.aload_n 0, 1) := by decide +kernel
theorem dL_law_619 : decode cL_law 619 = .ok (.iload 4, 2) := by decide +kernel
theorem dL_law_621 : decode cL_law 621 = .ok (.iconst 3, 1) := by decide +kernel
theorem dL_law_622 : decode cL_law 622 = .ok (.iadd, 1) := by decide +kernel
theorem dL_law_623 : decode cL_law 623 = .ok (.iaload, 1) := by decide +kernel
theorem dL_law_624 : decode cL_law 624 = .ok (.invokevirtual 115, 3) := by decide +kernel
theorem dL_law_627 : decode cL_law 627 = .ok (.istore 6, 2) := by decide +kernel
theorem dL_law_629 : decode cL_law 629 = .ok (.goto 588, 3) := by decide +kernel
theorem dL_law_632 : decode cL_law 632 = .ok (.aload_n 1, 1) := by decide +kernel
theorem dL_law_633 : decode cL_law 633 = .ok (.aload_n 0, 1) := by decide +kernel
theorem dL_law_634 : decode cL_law 634 = .ok (.iload 4, 2) := by decide +kernel
theorem dL_law_636 : decode cL_law 636 = .ok (.iconst 1, 1) := by decide +kernel
theorem dL_law_637 : decode cL_law 637 = .ok (.iadd, 1) := by decide +kernel
theorem dL_law_638 : decode cL_law 638 = .ok (.iaload, 1) := by decide +kernel
theorem dL_law_639 : decode cL_law 639 = .ok (.aload_n 0, 1) := by decide +kernel
theorem dL_law_640 : decode cL_law 640 = .ok (.iload 4, 2) := by decide +kernel
theorem dL_law_642 : decode cL_law 642 = .ok (.iconst 2, 1) := by decide +kernel
theorem dL_law_643 : decode cL_law 643 = .ok (.iadd, 1) := by decide +kernel
theorem dL_law_644 : decode cL_law 644 = .ok (.iaload, 1) := by decide +kernel
theorem dL_law_645 : decode cL_law 645 = .ok (.aload_n 0, 1) := by decide +kernel
theorem dL_law_646 : decode cL_law 646 = .ok (.iload 4, 2) := by decide +kernel
theorem dL_law_648 : decode cL_law 648 = .ok (.iconst 3, 1) := by decide +kernel
theorem dL_law_649 : decode cL_law 649 = .ok (.iadd, 1) := by decide +kernel
theorem dL_law_650 : decode cL_law 650 = .ok (.iaload, 1) := by decide +kernel
theorem dL_law_651 : decode cL_law 651 = .ok (.aload_n 3, 1) := by decide +kernel
theorem dL_law_652 : decode cL_law 652 = .ok (.invokestatic 116, 3) := by decide +kernel
theorem dL_law_655 : decode cL_law 655 = .ok (.istore 5, 2) := by decide +kernel
theorem dL_law_657 : decode cL_law 657 = .ok (.aload_n 2, 1) := by decide +kernel
theorem dL_law_658 : decode cL_law 658 = .ok (.aload_n 0, 1) := by decide +kernel
theorem dL_law_659 : decode cL_law 659 = .ok (.iload 4, 2) := by decide +kernel
theorem dL_law_661 : decode cL_law 661 = .ok (.iconst 1, 1) := by decide +kernel
theorem dL_law_662 : decode cL_law 662 = .ok (.iadd, 1) := by decide +kernel
theorem dL_law_663 : decode cL_law 663 = .ok (.iaload, 1) := by decide +kernel
theorem dL_law_664 : decode cL_law 664 = .ok (.aload_n 0, 1) := by decide +kernel
theorem dL_law_665 : decode cL_law 665 = .ok (.iload 4, 2) := by decide +kernel
theorem dL_law_667 : decode cL_law 667 = .ok (.iconst 2, 1) := by decide +kernel
theorem dL_law_668 : decode cL_law 668 = .ok (.iadd, 1) := by decide +kernel
theorem dL_law_669 : decode cL_law 669 = .ok (.iaload, 1) := by decide +kernel
theorem dL_law_670 : decode cL_law 670 = .ok (.aload_n 0, 1) := by decide +kernel
theorem dL_law_671 : decode cL_law 671 = .ok (.iload 4, 2) := by decide +kernel
theorem dL_law_673 : decode cL_law 673 = .ok (.iconst 3, 1) := by decide +kernel
theorem dL_law_674 : decode cL_law 674 = .ok (.iadd, 1) := by decide +kernel
theorem dL_law_675 : decode cL_law 675 = .ok (.iaload, 1) := by decide +kernel
theorem dL_law_676 : decode cL_law 676 = .ok (.invokevirtual 118, 3) := by decide +kernel
theorem dL_law_679 : decode cL_law 679 = .ok (.istore 6, 2) := by decide +kernel
theorem dL_law_681 : decode cL_law 681 = .ok (.goto 536, 3) := by decide +kernel
theorem dL_law_684 : decode cL_law 684 = .ok (.aload_n 1, 1) := by decide +kernel
theorem dL_law_685 : decode cL_law 685 = .ok (.aload_n 0, 1) := by decide +kernel
theorem dL_law_686 : decode cL_law 686 = .ok (.iload 4, 2) := by decide +kernel
theorem dL_law_688 : decode cL_law 688 = .ok (.iconst 1, 1) := by decide +kernel
theorem dL_law_689 : decode cL_law 689 = .ok (.iadd, 1) := by decide +kernel
theorem dL_law_690 : decode cL_law 690 = .ok (.iaload, 1) := by decide +kernel
theorem dL_law_691 : decode cL_law 691 = .ok (.aload_n 0, 1) := by decide +kernel
theorem dL_law_692 : decode cL_law 692 = .ok (.iload 4, 2) := by decide +kernel
theorem dL_law_694 : decode cL_law 694 = .ok (.iconst 2, 1) := by decide +kernel
theorem dL_law_695 : decode cL_law 695 = .ok (.iadd, 1) := by decide +kernel
theorem dL_law_696 : decode cL_law 696 = .ok (.iaload, 1) := by decide +kernel
theorem dL_law_697 : decode cL_law 697 = .ok (.aload_n 0, 1) := by decide +kernel
theorem dL_law_698 : decode cL_law 698 = .ok (.iload 4, 2) := by decide +kernel
theorem dL_law_700 : decode cL_law 700 = .ok (.iconst 3, 1) := by decide +kernel
theorem dL_law_701 : decode cL_law 701 = .ok (.iadd, 1) := by decide +kernel
theorem dL_law_702 : decode cL_law 702 = .ok (.iaload, 1) := by decide +kernel
theorem dL_law_703 : decode cL_law 703 = .ok (.aload_n 3, 1) := by decide +kernel
theorem dL_law_704 : decode cL_law 704 = .ok (.invokestatic 119, 3) := by decide +kernel
theorem dL_law_707 : decode cL_law 707 = .ok (.istore 5, 2) := by decide +kernel
theorem dL_law_709 : decode cL_law 709 = .ok (.aload_n 2, 1) := by decide +kernel
theorem dL_law_710 : decode cL_law 710 = .ok (.aload_n 0, 1) := by decide +kernel
theorem dL_law_711 : decode cL_law 711 = .ok (.iload 4, 2) := by decide +kernel
theorem dL_law_713 : decode cL_law 713 = .ok (.iconst 1, 1) := by decide +kernel
theorem dL_law_714 : decode cL_law 714 = .ok (.iadd, 1) := by decide +kernel
theorem dL_law_715 : decode cL_law 715 = .ok (.iaload, 1) := by decide +kernel
theorem dL_law_716 : decode cL_law 716 = .ok (.aload_n 0, 1) := by decide +kernel
theorem dL_law_717 : decode cL_law 717 = .ok (.iload 4, 2) := by decide +kernel
theorem dL_law_719 : decode cL_law 719 = .ok (.iconst 2, 1) := by decide +kernel
theorem dL_law_720 : decode cL_law 720 = .ok (.iadd, 1) := by decide +kernel
theorem dL_law_721 : decode cL_law 721 = .ok (.iaload, 1) := by decide +kernel
theorem dL_law_722 : decode cL_law 722 = .ok (.aload_n 0, 1) := by decide +kernel
theorem dL_law_723 : decode cL_law 723 = .ok (.iload 4, 2) := by decide +kernel
theorem dL_law_725 : decode cL_law 725 = .ok (.iconst 3, 1) := by decide +kernel
theorem dL_law_726 : decode cL_law 726 = .ok (.iadd, 1) := by decide +kernel
theorem dL_law_727 : decode cL_law 727 = .ok (.iaload, 1) := by decide +kernel
theorem dL_law_728 : decode cL_law 728 = .ok (.invokevirtual 121, 3) := by decide +kernel
theorem dL_law_731 : decode cL_law 731 = .ok (.istore 6, 2) := by decide +kernel
theorem dL_law_733 : decode cL_law 733 = .ok (.goto 484, 3) := by decide +kernel
theorem dL_law_776 : decode cL_law 776 = .ok (.aload_n 1, 1) := by decide +kernel
theorem dL_law_777 : decode cL_law 777 = .ok (.invokevirtual 125, 3) := by decide +kernel
theorem dL_law_780 : decode cL_law 780 = .ok (.pop, 1) := by decide +kernel
theorem dL_law_781 : decode cL_law 781 = .ok (.aload_n 2, 1) := by decide +kernel
theorem dL_law_782 : decode cL_law 782 = .ok (.invokevirtual 129, 3) := by decide +kernel
theorem dL_law_785 : decode cL_law 785 = .ok (.pop, 1) := by decide +kernel
theorem dL_law_786 : decode cL_law 786 = .ok (.goto 431, 3) := by decide +kernel
theorem dL_law_789 : decode cL_law 789 = .ok (.aload_n 1, 1) := by decide +kernel
theorem dL_law_790 : decode cL_law 790 = .ok (.aload_n 0, 1) := by decide +kernel
theorem dL_law_791 : decode cL_law 791 = .ok (.iload 4, 2) := by decide +kernel
theorem dL_law_793 : decode cL_law 793 = .ok (.iconst 1, 1) := by decide +kernel
theorem dL_law_794 : decode cL_law 794 = .ok (.iadd, 1) := by decide +kernel
theorem dL_law_795 : decode cL_law 795 = .ok (.iaload, 1) := by decide +kernel
theorem dL_law_796 : decode cL_law 796 = .ok (.aload_n 0, 1) := by decide +kernel
theorem dL_law_797 : decode cL_law 797 = .ok (.iload 4, 2) := by decide +kernel
theorem dL_law_799 : decode cL_law 799 = .ok (.iconst 2, 1) := by decide +kernel
theorem dL_law_800 : decode cL_law 800 = .ok (.iadd, 1) := by decide +kernel
theorem dL_law_801 : decode cL_law 801 = .ok (.iaload, 1) := by decide +kernel
theorem dL_law_802 : decode cL_law 802 = .ok (.aload_n 0, 1) := by decide +kernel
theorem dL_law_803 : decode cL_law 803 = .ok (.iload 4, 2) := by decide +kernel
theorem dL_law_805 : decode cL_law 805 = .ok (.iconst 3, 1) := by decide +kernel
theorem dL_law_806 : decode cL_law 806 = .ok (.iadd, 1) := by decide +kernel
theorem dL_law_807 : decode cL_law 807 = .ok (.iaload, 1) := by decide +kernel
theorem dL_law_808 : decode cL_law 808 = .ok (.aload_n 3, 1) := by decide +kernel
theorem dL_law_809 : decode cL_law 809 = .ok (.invokestatic 130, 3) := by decide +kernel
theorem dL_law_812 : decode cL_law 812 = .ok (.istore 5, 2) := by decide +kernel
theorem dL_law_814 : decode cL_law 814 = .ok (.aload_n 2, 1) := by decide +kernel
theorem dL_law_815 : decode cL_law 815 = .ok (.aload_n 0, 1) := by decide +kernel
theorem dL_law_816 : decode cL_law 816 = .ok (.iload 4, 2) := by decide +kernel
theorem dL_law_818 : decode cL_law 818 = .ok (.iconst 1, 1) := by decide +kernel
theorem dL_law_819 : decode cL_law 819 = .ok (.iadd, 1) := by decide +kernel
theorem dL_law_820 : decode cL_law 820 = .ok (.iaload, 1) := by decide +kernel
theorem dL_law_821 : decode cL_law 821 = .ok (.aload_n 0, 1) := by decide +kernel
theorem dL_law_822 : decode cL_law 822 = .ok (.iload 4, 2) := by decide +kernel
theorem dL_law_824 : decode cL_law 824 = .ok (.iconst 2, 1) := by decide +kernel
theorem dL_law_825 : decode cL_law 825 = .ok (.iadd, 1) := by decide +kernel
theorem dL_law_826 : decode cL_law 826 = .ok (.iaload, 1) := by decide +kernel
theorem dL_law_827 : decode cL_law 827 = .ok (.aload_n 0, 1) := by decide +kernel
theorem dL_law_828 : decode cL_law 828 = .ok (.iload 4, 2) := by decide +kernel
theorem dL_law_830 : decode cL_law 830 = .ok (.iconst 3, 1) := by decide +kernel
theorem dL_law_831 : decode cL_law 831 = .ok (.iadd, 1) := by decide +kernel
theorem dL_law_832 : decode cL_law 832 = .ok (.iaload, 1) := by decide +kernel
theorem dL_law_833 : decode cL_law 833 = .ok (.invokevirtual 132, 3) := by decide +kernel
theorem dL_law_836 : decode cL_law 836 = .ok (.istore 6, 2) := by decide +kernel
theorem dL_law_838 : decode cL_law 838 = .ok (.goto 379, 3) := by decide +kernel
theorem dL_law_841 : decode cL_law 841 = .ok (.aload_n 1, 1) := by decide +kernel
theorem dL_law_842 : decode cL_law 842 = .ok (.aload_n 0, 1) := by decide +kernel
theorem dL_law_843 : decode cL_law 843 = .ok (.iload 4, 2) := by decide +kernel
theorem dL_law_845 : decode cL_law 845 = .ok (.iconst 1, 1) := by decide +kernel
theorem dL_law_846 : decode cL_law 846 = .ok (.iadd, 1) := by decide +kernel
theorem dL_law_847 : decode cL_law 847 = .ok (.iaload, 1) := by decide +kernel
theorem dL_law_848 : decode cL_law 848 = .ok (.aload_n 0, 1) := by decide +kernel
theorem dL_law_849 : decode cL_law 849 = .ok (.iload 4, 2) := by decide +kernel
theorem dL_law_851 : decode cL_law 851 = .ok (.iconst 2, 1) := by decide +kernel
theorem dL_law_852 : decode cL_law 852 = .ok (.iadd, 1) := by decide +kernel
theorem dL_law_853 : decode cL_law 853 = .ok (.iaload, 1) := by decide +kernel
theorem dL_law_854 : decode cL_law 854 = .ok (.aload_n 0, 1) := by decide +kernel
theorem dL_law_855 : decode cL_law 855 = .ok (.iload 4, 2) := by decide +kernel
theorem dL_law_857 : decode cL_law 857 = .ok (.iconst 3, 1) := by decide +kernel
theorem dL_law_858 : decode cL_law 858 = .ok (.iadd, 1) := by decide +kernel
theorem dL_law_859 : decode cL_law 859 = .ok (.iaload, 1) := by decide +kernel
theorem dL_law_860 : decode cL_law 860 = .ok (.aload_n 0, 1) := by decide +kernel
theorem dL_law_861 : decode cL_law 861 = .ok (.iload 4, 2) := by decide +kernel
theorem dL_law_863 : decode cL_law 863 = .ok (.iconst 4, 1) := by decide +kernel
theorem dL_law_864 : decode cL_law 864 = .ok (.iadd, 1) := by decide +kernel
theorem dL_law_865 : decode cL_law 865 = .ok (.iaload, 1) := by decide +kernel
theorem dL_law_866 : decode cL_law 866 = .ok (.aload_n 3, 1) := by decide +kernel
theorem dL_law_867 : decode cL_law 867 = .ok (.invokestatic 133, 3) := by decide +kernel
theorem dL_law_870 : decode cL_law 870 = .ok (.istore 5, 2) := by decide +kernel
theorem dL_law_872 : decode cL_law 872 = .ok (.aload_n 2, 1) := by decide +kernel
theorem dL_law_873 : decode cL_law 873 = .ok (.aload_n 0, 1) := by decide +kernel
theorem dL_law_874 : decode cL_law 874 = .ok (.iload 4, 2) := by decide +kernel
theorem dL_law_876 : decode cL_law 876 = .ok (.iconst 1, 1) := by decide +kernel
theorem dL_law_877 : decode cL_law 877 = .ok (.iadd, 1) := by decide +kernel
theorem dL_law_878 : decode cL_law 878 = .ok (.iaload, 1) := by decide +kernel
theorem dL_law_879 : decode cL_law 879 = .ok (.aload_n 0, 1) := by decide +kernel
theorem dL_law_880 : decode cL_law 880 = .ok (.iload 4, 2) := by decide +kernel
theorem dL_law_882 : decode cL_law 882 = .ok (.iconst 2, 1) := by decide +kernel
theorem dL_law_883 : decode cL_law 883 = .ok (.iadd, 1) := by decide +kernel
theorem dL_law_884 : decode cL_law 884 = .ok (.iaload, 1) := by decide +kernel
theorem dL_law_885 : decode cL_law 885 = .ok (.aload_n 0, 1) := by decide +kernel
theorem dL_law_886 : decode cL_law 886 = .ok (.iload 4, 2) := by decide +kernel
theorem dL_law_888 : decode cL_law 888 = .ok (.iconst 3, 1) := by decide +kernel
theorem dL_law_889 : decode cL_law 889 = .ok (.iadd, 1) := by decide +kernel
theorem dL_law_890 : decode cL_law 890 = .ok (.iaload, 1) := by decide +kernel
theorem dL_law_891 : decode cL_law 891 = .ok (.aload_n 0, 1) := by decide +kernel
theorem dL_law_892 : decode cL_law 892 = .ok (.iload 4, 2) := by decide +kernel
theorem dL_law_894 : decode cL_law 894 = .ok (.iconst 4, 1) := by decide +kernel
theorem dL_law_895 : decode cL_law 895 = .ok (.iadd, 1) := by decide +kernel
theorem dL_law_896 : decode cL_law 896 = .ok (.iaload, 1) := by decide +kernel
theorem dL_law_897 : decode cL_law 897 = .ok (.invokevirtual 135, 3) := by decide +kernel
theorem dL_law_900 : decode cL_law 900 = .ok (.istore 6, 2) := by decide +kernel
theorem dL_law_902 : decode cL_law 902 = .ok (.goto 315, 3) := by decide +kernel
theorem wd_845 : (.codeWith ⟨"DrawingVaultLaw", "check", "(LDrawingVault;III[J)I"⟩ method_12_code 6 (Option.some .int) [(0, 19, 22, 13)] : Cond) ∈ aw := aw_in (tb_3 (List.mem_of_getElem? (i := 95) rfl)) rfl
theorem wd_846 : (.methodLink "DrawingVaultLaw" 113 ⟨"DrawingVaultLaw", "check", "(LDrawingVault;III[J)I"⟩ : Cond) ∈ aw := aw_in (tb_3 (List.mem_of_getElem? (i := 93) rfl)) rfl
theorem wd_847 : (.static ⟨"DrawingVaultLaw", "check", "(LDrawingVault;III[J)I"⟩ : Cond) ∈ aw := aw_in (tb_3 (List.mem_of_getElem? (i := 94) rfl)) rfl
theorem wd_848 : (.code ⟨"DrawingVaultModel", "check", "(III)Z"⟩ prog_9_method_50_code 5 (Option.some .boolean) : Cond) ∈ aw := aw_in (tb_4 (List.mem_of_getElem? (i := 234) rfl)) rfl
theorem wd_849 : (.methodLink "DrawingVaultLaw" 115 ⟨"DrawingVaultModel", "check", "(III)Z"⟩ : Cond) ∈ aw := aw_in (tb_4 (List.mem_of_getElem? (i := 231) rfl)) rfl
theorem wd_850 : (.instanceMethod ⟨"DrawingVaultModel", "check", "(III)Z"⟩ : Cond) ∈ aw := aw_in (tb_4 (List.mem_of_getElem? (i := 232) rfl)) rfl
theorem wd_851 : (.selects "DrawingVaultModel" ⟨"DrawingVaultModel", "check", "(III)Z"⟩ ⟨"DrawingVaultModel", "check", "(III)Z"⟩ : Cond) ∈ aw := aw_in (tb_4 (List.mem_of_getElem? (i := 233) rfl)) rfl
theorem wd_852 : (.codeWith ⟨"DrawingVaultLaw", "release", "(LDrawingVault;III[J)I"⟩ method_13_code 6 (Option.some .int) [(0, 19, 22, 13)] : Cond) ∈ aw := aw_in (tb_3 (List.mem_of_getElem? (i := 110) rfl)) rfl
theorem wd_853 : (.methodLink "DrawingVaultLaw" 116 ⟨"DrawingVaultLaw", "release", "(LDrawingVault;III[J)I"⟩ : Cond) ∈ aw := aw_in (tb_3 (List.mem_of_getElem? (i := 108) rfl)) rfl
theorem wd_854 : (.static ⟨"DrawingVaultLaw", "release", "(LDrawingVault;III[J)I"⟩ : Cond) ∈ aw := aw_in (tb_3 (List.mem_of_getElem? (i := 109) rfl)) rfl
theorem wd_855 : (.code ⟨"DrawingVaultModel", "release", "(III)Z"⟩ prog_9_method_52_code 5 (Option.some .boolean) : Cond) ∈ aw := aw_in (tb_5 (List.mem_of_getElem? (i := 6) rfl)) rfl
theorem wd_856 : (.methodLink "DrawingVaultLaw" 118 ⟨"DrawingVaultModel", "release", "(III)Z"⟩ : Cond) ∈ aw := aw_in (tb_5 (List.mem_of_getElem? (i := 3) rfl)) rfl
theorem wd_857 : (.instanceMethod ⟨"DrawingVaultModel", "release", "(III)Z"⟩ : Cond) ∈ aw := aw_in (tb_5 (List.mem_of_getElem? (i := 4) rfl)) rfl
theorem wd_858 : (.selects "DrawingVaultModel" ⟨"DrawingVaultModel", "release", "(III)Z"⟩ ⟨"DrawingVaultModel", "release", "(III)Z"⟩ : Cond) ∈ aw := aw_in (tb_5 (List.mem_of_getElem? (i := 5) rfl)) rfl
theorem wd_859 : (.codeWith ⟨"DrawingVaultLaw", "withdraw", "(LDrawingVault;III[J)I"⟩ method_14_code 6 (Option.some .int) [(0, 19, 22, 13)] : Cond) ∈ aw := aw_in (tb_3 (List.mem_of_getElem? (i := 137) rfl)) rfl
theorem wd_860 : (.methodLink "DrawingVaultLaw" 119 ⟨"DrawingVaultLaw", "withdraw", "(LDrawingVault;III[J)I"⟩ : Cond) ∈ aw := aw_in (tb_3 (List.mem_of_getElem? (i := 135) rfl)) rfl
theorem wd_861 : (.static ⟨"DrawingVaultLaw", "withdraw", "(LDrawingVault;III[J)I"⟩ : Cond) ∈ aw := aw_in (tb_3 (List.mem_of_getElem? (i := 136) rfl)) rfl
theorem wd_862 : (.code ⟨"DrawingVaultModel", "withdraw", "(III)Z"⟩ prog_9_method_54_code 5 (Option.some .boolean) : Cond) ∈ aw := aw_in (tb_5 (List.mem_of_getElem? (i := 26) rfl)) rfl
theorem wd_863 : (.methodLink "DrawingVaultLaw" 121 ⟨"DrawingVaultModel", "withdraw", "(III)Z"⟩ : Cond) ∈ aw := aw_in (tb_5 (List.mem_of_getElem? (i := 23) rfl)) rfl
theorem wd_864 : (.instanceMethod ⟨"DrawingVaultModel", "withdraw", "(III)Z"⟩ : Cond) ∈ aw := aw_in (tb_5 (List.mem_of_getElem? (i := 24) rfl)) rfl
theorem wd_865 : (.selects "DrawingVaultModel" ⟨"DrawingVaultModel", "withdraw", "(III)Z"⟩ ⟨"DrawingVaultModel", "withdraw", "(III)Z"⟩ : Cond) ∈ aw := aw_in (tb_5 (List.mem_of_getElem? (i := 25) rfl)) rfl
theorem wd_866 : (.code ⟨"DrawingVault", "why", "()I"⟩ prog_1_method_15_code 1 (Option.some .int) : Cond) ∈ aw := aw_in (tb_1 (List.mem_of_getElem? (i := 130) rfl)) rfl
theorem wd_867 : (.methodLink "DrawingVaultLaw" 125 ⟨"DrawingVault", "why", "()I"⟩ : Cond) ∈ aw := aw_in (tb_1 (List.mem_of_getElem? (i := 127) rfl)) rfl
theorem wd_868 : (.instanceMethod ⟨"DrawingVault", "why", "()I"⟩ : Cond) ∈ aw := aw_in (tb_1 (List.mem_of_getElem? (i := 128) rfl)) rfl
theorem wd_869 : (.selects "DrawingVault" ⟨"DrawingVault", "why", "()I"⟩ ⟨"DrawingVault", "why", "()I"⟩ : Cond) ∈ aw := aw_in (tb_1 (List.mem_of_getElem? (i := 129) rfl)) rfl
theorem wd_870 : (.code ⟨"DrawingVaultModel", "why", "()I"⟩ prog_9_method_58_code 1 (Option.some .int) : Cond) ∈ aw := aw_in (tb_5 (List.mem_of_getElem? (i := 46) rfl)) rfl
theorem wd_871 : (.methodLink "DrawingVaultLaw" 129 ⟨"DrawingVaultModel", "why", "()I"⟩ : Cond) ∈ aw := aw_in (tb_5 (List.mem_of_getElem? (i := 43) rfl)) rfl
theorem wd_872 : (.instanceMethod ⟨"DrawingVaultModel", "why", "()I"⟩ : Cond) ∈ aw := aw_in (tb_5 (List.mem_of_getElem? (i := 44) rfl)) rfl
theorem wd_873 : (.selects "DrawingVaultModel" ⟨"DrawingVaultModel", "why", "()I"⟩ ⟨"DrawingVaultModel", "why", "()I"⟩ : Cond) ∈ aw := aw_in (tb_5 (List.mem_of_getElem? (i := 45) rfl)) rfl
theorem wd_874 : (.codeWith ⟨"DrawingVaultLaw", "look", "(LDrawingVault;III[J)I"⟩ method_16_code 6 (Option.some .int) [(0, 12, 15, 60)] : Cond) ∈ aw := aw_in (tb_3 (List.mem_of_getElem? (i := 192) rfl)) rfl
theorem wd_875 : (.methodLink "DrawingVaultLaw" 130 ⟨"DrawingVaultLaw", "look", "(LDrawingVault;III[J)I"⟩ : Cond) ∈ aw := aw_in (tb_3 (List.mem_of_getElem? (i := 190) rfl)) rfl
theorem wd_876 : (.static ⟨"DrawingVaultLaw", "look", "(LDrawingVault;III[J)I"⟩ : Cond) ∈ aw := aw_in (tb_3 (List.mem_of_getElem? (i := 191) rfl)) rfl
theorem wd_877 : (.code ⟨"DrawingVaultModel", "look", "(III)I"⟩ prog_9_method_59_code 6 (Option.some .int) : Cond) ∈ aw := aw_in (tb_5 (List.mem_of_getElem? (i := 50) rfl)) rfl
theorem wd_878 : (.methodLink "DrawingVaultLaw" 132 ⟨"DrawingVaultModel", "look", "(III)I"⟩ : Cond) ∈ aw := aw_in (tb_5 (List.mem_of_getElem? (i := 47) rfl)) rfl
theorem wd_879 : (.instanceMethod ⟨"DrawingVaultModel", "look", "(III)I"⟩ : Cond) ∈ aw := aw_in (tb_5 (List.mem_of_getElem? (i := 48) rfl)) rfl
theorem wd_880 : (.selects "DrawingVaultModel" ⟨"DrawingVaultModel", "look", "(III)I"⟩ ⟨"DrawingVaultModel", "look", "(III)I"⟩ : Cond) ∈ aw := aw_in (tb_5 (List.mem_of_getElem? (i := 49) rfl)) rfl
theorem wd_881 : (.codeWith ⟨"DrawingVaultLaw", "reference", "(LDrawingVault;IIII[J)I"⟩ method_17_code 7 (Option.some .int) [(0, 14, 17, 60)] : Cond) ∈ aw := aw_in (tb_3 (List.mem_of_getElem? (i := 222) rfl)) rfl
theorem wd_882 : (.methodLink "DrawingVaultLaw" 133 ⟨"DrawingVaultLaw", "reference", "(LDrawingVault;IIII[J)I"⟩ : Cond) ∈ aw := aw_in (tb_3 (List.mem_of_getElem? (i := 220) rfl)) rfl
theorem wd_883 : (.static ⟨"DrawingVaultLaw", "reference", "(LDrawingVault;IIII[J)I"⟩ : Cond) ∈ aw := aw_in (tb_3 (List.mem_of_getElem? (i := 221) rfl)) rfl
theorem wd_884 : (.code ⟨"DrawingVaultModel", "reference", "(IIII)I"⟩ prog_9_method_60_code 7 (Option.some .int) : Cond) ∈ aw := aw_in (tb_5 (List.mem_of_getElem? (i := 54) rfl)) rfl
theorem wd_885 : (.methodLink "DrawingVaultLaw" 135 ⟨"DrawingVaultModel", "reference", "(IIII)I"⟩ : Cond) ∈ aw := aw_in (tb_5 (List.mem_of_getElem? (i := 51) rfl)) rfl
theorem wd_886 : (.instanceMethod ⟨"DrawingVaultModel", "reference", "(IIII)I"⟩ : Cond) ∈ aw := aw_in (tb_5 (List.mem_of_getElem? (i := 52) rfl)) rfl
theorem wd_887 : (.selects "DrawingVaultModel" ⟨"DrawingVaultModel", "reference", "(IIII)I"⟩ ⟨"DrawingVaultModel", "reference", "(IIII)I"⟩ : Cond) ∈ aw := aw_in (tb_5 (List.mem_of_getElem? (i := 53) rfl)) rfl
def LC_9 (n : Nat) (σ : hT) (v1 v2 v3 v4 v5 : Int32) : Option (Int32 × hT) := Option.bind (L_check n σ v1 v2 v3) fun ⟨y1, σ2⟩ => Option.bind (M_check n σ2 v1 v2 v3) fun ⟨y4, σ5⟩ => some (1, σ5)
def LC_10 (n : Nat) (σ : hT) (v1 v2 v3 v4 v5 : Int32) : Option (Int32 × hT) := Option.bind (L_release n σ v1 v2 v3) fun ⟨y1, σ2⟩ => Option.bind (M_release n σ2 v1 v2 v3) fun ⟨y4, σ5⟩ => some (1, σ5)
def LC_11 (n : Nat) (σ : hT) (v1 v2 v3 v4 v5 : Int32) : Option (Int32 × hT) := Option.bind (L_withdraw n σ v1 v2 v3) fun ⟨y1, σ2⟩ => Option.bind (M_withdraw n σ2 v1 v2 v3) fun ⟨y4, σ5⟩ => some (1, σ5)
def LC_13 (n : Nat) (σ : hT) (v1 v2 v3 v4 v5 : Int32) : Option (Int32 × hT) := Option.bind (M_why σ) fun ⟨y3, σ4⟩ => some (1, σ4)
def LC_14 (n : Nat) (σ : hT) (v1 v2 v3 v4 v5 : Int32) : Option (Int32 × hT) := Option.bind (L_look n σ v1 v2 v3) fun ⟨y1, σ2⟩ => Option.bind (M_look n σ2 v1 v2 v3) fun ⟨y4, σ5⟩ => some (1, σ5)
def LC_15 (n : Nat) (σ : hT) (v1 v2 v3 v4 v5 : Int32) : Option (Int32 × hT) := Option.bind (L_reference n σ v1 v2 v3 v4) fun ⟨y1, σ2⟩ => Option.bind (M_reference n σ2 v1 v2 v3 v4) fun ⟨y4, σ5⟩ => some (1, σ5)
set_option maxHeartbeats 4000000 in
set_option maxRecDepth 100000 in
theorem lawc_9 {p : Program} {l : Launch} {e : Env} {s : State} {m : MethodId} {below : List Frame} {meth : Method} {c : Code} {b L : Nat} {xs : Nat → Int32} {A : Nat → Prop} {H : Heap} {locs : List Loc} {ls : Array Slot} {dC : Nat → ClassId} {dI : Nat → Nat → Nat} {Q : State → Prop} {kc ks : Nat} (hfl : l.stackTraces = false) (C : lawH p s m meth c b L xs A) (ad : Nat → Nat → Nat) (ca : Nat → Nat → ClassId) (dom : List (Nat × Nat)) (σ : hT) (i : Int32) (n : Nat) (v1 v2 v3 v4 v5 : Int32)
    (hv1 : vp_in (i + 1) L) (hv2 : vp_in (i + 2) L) (hv3 : vp_in (i + 3) L) (hv4 : vp_in (i + 4) L) (hv5 : vp_in (i + 5) L) (e1 : xs (i + 1).toNatClampNeg = v1) (e2 : xs (i + 2).toNatClampNeg = v2) (e3 : xs (i + 3).toNatClampNeg = v3) (e4 : xs (i + 4).toNatClampNeg = v4) (e5 : xs (i + 5).toNatClampNeg = v5)
    (hmV : (0, 0) ∈ dom) (hmM : (4, 0) ∈ dom) (hmO : (24, 0) ∈ dom) (hN : dom.Nodup) (hC : clo dom σ.2.2) (hP : va_P (dC, dI) kCl (w9 ad ca dom σ) H) (hD : va_D A (w9 ad ca dom σ)) (hK : hkt (dC, dI) ca dom s) (hS : va_S A s.heap H locs) (hl : lv_has ls 7 [(4, .int i), (3, .ref (ad 24 0)), (2, .ref (ad 4 0)), (1, .ref (ad 0 0)), (0, .ref b)]) (hkc : kc + 16 ≤ 601024) (hks : ks + 101 ≤ 7293033) (σ' : hT) (hf : LC_9 n σ v1 v2 v3 v4 v5 = some (1, σ'))
    (kk : ∀ (ad' : Nat → Nat → Nat) (ca' : Nat → Nat → ClassId) (dom' : List (Nat × Nat)) (H' : Heap) (locs' : List Loc) (ls' : Array Slot), dom' = dom → dom'.Nodup → clo dom' σ'.2.2 → va_P (dC, dI) kCl (w9 ad' ca' dom' σ') H' → va_D A (w9 ad' ca' dom' σ') → hkt (dC, dI) ca' dom' s → va_S A s.heap H' locs' → lv_has ls' 7 [(4, .int i), (3, .ref (ad' 24 0)), (2, .ref (ad' 4 0)), (1, .ref (ad' 0 0)), (0, .ref b)] → W p l e room_1 s m #[Value.ref b] below meth c H' locs' (kc + 16) (ks + 101) Q (F0 m 1217 ls' [])) :
    W p l e room_1 s m #[Value.ref b] below meth c H locs kc ks Q (F0 m 580 ls []) := by
  obtain ⟨hx, hb, hr, hml, hown, hts, hX, hbl, hbA, hlocks, hA, hA2, hG, hE0⟩ := C
  unfold LC_9 at hf
  refine lv_aload_n (pc := 580) hx hb dL_law_580 rfl (lv_at hl 3 rfl) ?_
  refine lv_aload_n (pc := 581) hx hb dL_law_581 rfl (lv_at hl 4 rfl) ?_
  refine lv_iload (pc := 582) hx hb dL_law_582 (lv_at hl 0 rfl) ?_
  refine lv_iconst (pc := 584) (v := 1) hx hb dL_law_584 (by decide) ?_
  refine lv_iadd (pc := 585) hx hb dL_law_585 ?_
  refine va_sld (A := A) (pc := 586) hx hb hX hbl hbA hS hv1 dL_law_586 ?_
  refine W.eq (g2 := F0 m 587 ls [.int v1, .ref (ad 0 0)]) (by rw [e1]) ?_
  refine lv_aload_n (pc := 587) hx hb dL_law_587 rfl (lv_at hl 4 rfl) ?_
  refine lv_iload (pc := 588) hx hb dL_law_588 (lv_at hl 0 rfl) ?_
  refine lv_iconst (pc := 590) (v := 2) hx hb dL_law_590 (by decide) ?_
  refine lv_iadd (pc := 591) hx hb dL_law_591 ?_
  refine va_sld (A := A) (pc := 592) hx hb hX hbl hbA hS hv2 dL_law_592 ?_
  refine W.eq (g2 := F0 m 593 ls [.int v2, .int v1, .ref (ad 0 0)]) (by rw [e2]) ?_
  refine lv_aload_n (pc := 593) hx hb dL_law_593 rfl (lv_at hl 4 rfl) ?_
  refine lv_iload (pc := 594) hx hb dL_law_594 (lv_at hl 0 rfl) ?_
  refine lv_iconst (pc := 596) (v := 3) hx hb dL_law_596 (by decide) ?_
  refine lv_iadd (pc := 597) hx hb dL_law_597 ?_
  refine va_sld (A := A) (pc := 598) hx hb hX hbl hbA hS hv3 dL_law_598 ?_
  refine W.eq (g2 := F0 m 599 ls [.int v3, .int v2, .int v1, .ref (ad 0 0)]) (by rw [e3]) ?_
  refine lv_aload_n (pc := 599) hx hb dL_law_599 rfl (lv_at hl 1 rfl) ?_
  obtain ⟨⟨y1, σ2⟩, hy1, hf⟩ := ob hf
  have hE := xE.mono hE0 (fun q z => hA2 q (w9_xA hD z))
  have hSA : ∀ q : Nat, q < s.heap.size → A q → xS ad dom q := fun q h z => absurd (hA2 q z) (Nat.not_le.mpr h)
  have hFc := w9_free hD hS hA
  refine va_calli (pc := 600) (hxR (As := [.ref (ad 0 0), .int v1, .int v2, .int v3, .ref (ad 24 0)]) (rest := []) ⟨hx, hb, hml, hown, hts⟩ (t_L_check l dC dI ad ca dom H.size n σ v1 v2 v3 hmV hmO hN hC hfl y1 σ2 hy1) 5 wd_846 wd_847 wd_777 wd_845 rfl rfl ⟨Nat.le_of_ble_eq_true rfl, Nat.le_of_ble_eq_true rfl⟩ (by decide +kernel) ⟨hX_blind, hX_pre hP hK hD hG hE hS hSA⟩ rfl rfl hl.1 rfl (lv_room (Nat.le_of_ble_eq_true rfl)) dL_law_600 ⟨show kc + 0 + 1 ≤ 601024 by omega, show ks + 0 + 6 ≤ 7293033 by omega⟩) hS (fun q _ h => hFc q h) hFc (fun r9 u t H1 locs ht hvm hr9 hB hz1 hk1 hS => ?_)
  obtain ⟨hP, hD, hC⟩ := hB
  rw [ht] at hP
  replace hD := hD.weaken (fun _ _ _ h => hFc _ h)
  generalize H1 = H at hP hS ⊢
  refine W.widen (k := (kc + 1)) (n := (ks + 6)) (by omega) (by omega) ?_
  refine W.eq (g2 := F0 m 603 ls [.int y1]) (by rw [hr9]) ?_
  refine lv_istore (pc := 603) hx hb dL_law_603 hl (by decide) rfl (fun ls hl => ?_)
  have hl : lv_has ls 7 [(5, .int y1), (4, .int i), (3, .ref (ad 24 0)), (2, .ref (ad 4 0)), (1, .ref (ad 0 0)), (0, .ref b)] := hl
  refine lv_aload_n (pc := 605) hx hb dL_law_605 rfl (lv_at hl 3 rfl) ?_
  refine lv_aload_n (pc := 606) hx hb dL_law_606 rfl (lv_at hl 5 rfl) ?_
  refine lv_iload (pc := 607) hx hb dL_law_607 (lv_at hl 1 rfl) ?_
  refine lv_iconst (pc := 609) (v := 1) hx hb dL_law_609 (by decide) ?_
  refine lv_iadd (pc := 610) hx hb dL_law_610 ?_
  refine va_sld (A := A) (pc := 611) hx hb hX hbl hbA hS hv1 dL_law_611 ?_
  refine W.eq (g2 := F0 m 612 ls [.int v1, .ref (ad 4 0)]) (by rw [e1]) ?_
  refine lv_aload_n (pc := 612) hx hb dL_law_612 rfl (lv_at hl 5 rfl) ?_
  refine lv_iload (pc := 613) hx hb dL_law_613 (lv_at hl 1 rfl) ?_
  refine lv_iconst (pc := 615) (v := 2) hx hb dL_law_615 (by decide) ?_
  refine lv_iadd (pc := 616) hx hb dL_law_616 ?_
  refine va_sld (A := A) (pc := 617) hx hb hX hbl hbA hS hv2 dL_law_617 ?_
  refine W.eq (g2 := F0 m 618 ls [.int v2, .int v1, .ref (ad 4 0)]) (by rw [e2]) ?_
  refine lv_aload_n (pc := 618) hx hb dL_law_618 rfl (lv_at hl 5 rfl) ?_
  refine lv_iload (pc := 619) hx hb dL_law_619 (lv_at hl 1 rfl) ?_
  refine lv_iconst (pc := 621) (v := 3) hx hb dL_law_621 (by decide) ?_
  refine lv_iadd (pc := 622) hx hb dL_law_622 ?_
  refine va_sld (A := A) (pc := 623) hx hb hX hbl hbA hS hv3 dL_law_623 ?_
  refine W.eq (g2 := F0 m 624 ls [.int v3, .int v2, .int v1, .ref (ad 4 0)]) (by rw [e3]) ?_
  obtain ⟨q3, hq3, eq3⟩ := at_4 (ad := ad) (ca := ca) (σ := σ2) hmM
  obtain ⟨⟨y4, σ5⟩, hy4, hf⟩ := ob hf
  have hFc := w9_free hD hS hA
  refine va_calli (pc := 624) (va_runV (As := [.int v1, .int v2, .int v3]) (rest := []) ⟨hx, hb, hml, hown, hts⟩ (t_M_check l dC dI ad ca dom H.size n σ2 v1 v2 v3 hmM hN hC y4 σ5 hy4) (cwV 3 hts (gV wd_849 wd_850 wd_851 wd_50 wd_848) rfl rfl rfl (by decide +kernel) ⟨Nat.le_of_ble_eq_true rfl, Nat.le_of_ble_eq_true rfl⟩) ⟨hW_blind, va_recv (q := (RM, TM, 11)) (q0 := q3) (ci := 4) hK.1 hP rfl eq3, hW_pre hP hK hD hG⟩ rfl rfl hl.1 rfl (lv_room (Nat.le_of_ble_eq_true rfl)) dL_law_624 ⟨show kc + 1 + 0 ≤ 601024 by omega, show ks + 6 + 0 ≤ 7293033 by omega⟩) hS (fun q _ h => hFc q h) hFc (fun r9 u t H1 locs ht hvm hr9 hB hz1 hk1 hS => ?_)
  obtain ⟨hP, hD, hC⟩ := hB
  rw [ht] at hP
  replace hD := hD.weaken (fun _ _ _ h => hFc _ h)
  generalize H1 = H at hP hS ⊢
  refine W.eq (g2 := F0 m 627 ls [.int y4]) (by rw [hr9]) ?_
  refine lv_istore (pc := 627) hx hb dL_law_627 hl (by decide) rfl (fun ls hl => ?_)
  have hl : lv_has ls 7 [(6, .int y4), (5, .int y1), (4, .int i), (3, .ref (ad 24 0)), (2, .ref (ad 4 0)), (1, .ref (ad 0 0)), (0, .ref b)] := hl
  refine lv_goto (pc := 629) (tgt := 1217) hx hb dL_law_629 rfl ?_
  obtain ⟨-, h9⟩ := Prod.mk.inj (Option.some.inj hf)
  subst h9
  have hl := lv_sub hl (l' := [(4, .int i), (3, .ref (ad 24 0)), (2, .ref (ad 4 0)), (1, .ref (ad 0 0)), (0, .ref b)]) [2, 3, 4, 5, 6] rfl
  refine W.widen (k := kc + 16) (n := ks + 101) (by omega) (by omega) ?_
  exact kk ad ca dom H _ ls rfl hN hC hP hD hK hS hl
set_option maxHeartbeats 4000000 in
set_option maxRecDepth 100000 in
theorem lawc_10 {p : Program} {l : Launch} {e : Env} {s : State} {m : MethodId} {below : List Frame} {meth : Method} {c : Code} {b L : Nat} {xs : Nat → Int32} {A : Nat → Prop} {H : Heap} {locs : List Loc} {ls : Array Slot} {dC : Nat → ClassId} {dI : Nat → Nat → Nat} {Q : State → Prop} {kc ks : Nat} (hfl : l.stackTraces = false) (C : lawH p s m meth c b L xs A) (ad : Nat → Nat → Nat) (ca : Nat → Nat → ClassId) (dom : List (Nat × Nat)) (σ : hT) (i : Int32) (n : Nat) (v1 v2 v3 v4 v5 : Int32)
    (hv1 : vp_in (i + 1) L) (hv2 : vp_in (i + 2) L) (hv3 : vp_in (i + 3) L) (hv4 : vp_in (i + 4) L) (hv5 : vp_in (i + 5) L) (e1 : xs (i + 1).toNatClampNeg = v1) (e2 : xs (i + 2).toNatClampNeg = v2) (e3 : xs (i + 3).toNatClampNeg = v3) (e4 : xs (i + 4).toNatClampNeg = v4) (e5 : xs (i + 5).toNatClampNeg = v5)
    (hmV : (0, 0) ∈ dom) (hmM : (4, 0) ∈ dom) (hmO : (24, 0) ∈ dom) (hN : dom.Nodup) (hC : clo dom σ.2.2) (hP : va_P (dC, dI) kCl (w9 ad ca dom σ) H) (hD : va_D A (w9 ad ca dom σ)) (hK : hkt (dC, dI) ca dom s) (hS : va_S A s.heap H locs) (hl : lv_has ls 7 [(4, .int i), (3, .ref (ad 24 0)), (2, .ref (ad 4 0)), (1, .ref (ad 0 0)), (0, .ref b)]) (hkc : kc + 16 ≤ 601024) (hks : ks + 101 ≤ 7293033) (σ' : hT) (hf : LC_10 n σ v1 v2 v3 v4 v5 = some (1, σ'))
    (kk : ∀ (ad' : Nat → Nat → Nat) (ca' : Nat → Nat → ClassId) (dom' : List (Nat × Nat)) (H' : Heap) (locs' : List Loc) (ls' : Array Slot), dom' = dom → dom'.Nodup → clo dom' σ'.2.2 → va_P (dC, dI) kCl (w9 ad' ca' dom' σ') H' → va_D A (w9 ad' ca' dom' σ') → hkt (dC, dI) ca' dom' s → va_S A s.heap H' locs' → lv_has ls' 7 [(4, .int i), (3, .ref (ad' 24 0)), (2, .ref (ad' 4 0)), (1, .ref (ad' 0 0)), (0, .ref b)] → W p l e room_1 s m #[Value.ref b] below meth c H' locs' (kc + 16) (ks + 101) Q (F0 m 1217 ls' [])) :
    W p l e room_1 s m #[Value.ref b] below meth c H locs kc ks Q (F0 m 632 ls []) := by
  obtain ⟨hx, hb, hr, hml, hown, hts, hX, hbl, hbA, hlocks, hA, hA2, hG, hE0⟩ := C
  unfold LC_10 at hf
  refine lv_aload_n (pc := 632) hx hb dL_law_632 rfl (lv_at hl 3 rfl) ?_
  refine lv_aload_n (pc := 633) hx hb dL_law_633 rfl (lv_at hl 4 rfl) ?_
  refine lv_iload (pc := 634) hx hb dL_law_634 (lv_at hl 0 rfl) ?_
  refine lv_iconst (pc := 636) (v := 1) hx hb dL_law_636 (by decide) ?_
  refine lv_iadd (pc := 637) hx hb dL_law_637 ?_
  refine va_sld (A := A) (pc := 638) hx hb hX hbl hbA hS hv1 dL_law_638 ?_
  refine W.eq (g2 := F0 m 639 ls [.int v1, .ref (ad 0 0)]) (by rw [e1]) ?_
  refine lv_aload_n (pc := 639) hx hb dL_law_639 rfl (lv_at hl 4 rfl) ?_
  refine lv_iload (pc := 640) hx hb dL_law_640 (lv_at hl 0 rfl) ?_
  refine lv_iconst (pc := 642) (v := 2) hx hb dL_law_642 (by decide) ?_
  refine lv_iadd (pc := 643) hx hb dL_law_643 ?_
  refine va_sld (A := A) (pc := 644) hx hb hX hbl hbA hS hv2 dL_law_644 ?_
  refine W.eq (g2 := F0 m 645 ls [.int v2, .int v1, .ref (ad 0 0)]) (by rw [e2]) ?_
  refine lv_aload_n (pc := 645) hx hb dL_law_645 rfl (lv_at hl 4 rfl) ?_
  refine lv_iload (pc := 646) hx hb dL_law_646 (lv_at hl 0 rfl) ?_
  refine lv_iconst (pc := 648) (v := 3) hx hb dL_law_648 (by decide) ?_
  refine lv_iadd (pc := 649) hx hb dL_law_649 ?_
  refine va_sld (A := A) (pc := 650) hx hb hX hbl hbA hS hv3 dL_law_650 ?_
  refine W.eq (g2 := F0 m 651 ls [.int v3, .int v2, .int v1, .ref (ad 0 0)]) (by rw [e3]) ?_
  refine lv_aload_n (pc := 651) hx hb dL_law_651 rfl (lv_at hl 1 rfl) ?_
  obtain ⟨⟨y1, σ2⟩, hy1, hf⟩ := ob hf
  have hE := xE.mono hE0 (fun q z => hA2 q (w9_xA hD z))
  have hSA : ∀ q : Nat, q < s.heap.size → A q → xS ad dom q := fun q h z => absurd (hA2 q z) (Nat.not_le.mpr h)
  have hFc := w9_free hD hS hA
  refine va_calli (pc := 652) (hxR (As := [.ref (ad 0 0), .int v1, .int v2, .int v3, .ref (ad 24 0)]) (rest := []) ⟨hx, hb, hml, hown, hts⟩ (t_L_release l dC dI ad ca dom H.size n σ v1 v2 v3 hmV hmO hN hC hfl y1 σ2 hy1) 5 wd_853 wd_854 wd_777 wd_852 rfl rfl ⟨Nat.le_of_ble_eq_true rfl, Nat.le_of_ble_eq_true rfl⟩ (by decide +kernel) ⟨hX_blind, hX_pre hP hK hD hG hE hS hSA⟩ rfl rfl hl.1 rfl (lv_room (Nat.le_of_ble_eq_true rfl)) dL_law_652 ⟨show kc + 0 + 1 ≤ 601024 by omega, show ks + 0 + 6 ≤ 7293033 by omega⟩) hS (fun q _ h => hFc q h) hFc (fun r9 u t H1 locs ht hvm hr9 hB hz1 hk1 hS => ?_)
  obtain ⟨hP, hD, hC⟩ := hB
  rw [ht] at hP
  replace hD := hD.weaken (fun _ _ _ h => hFc _ h)
  generalize H1 = H at hP hS ⊢
  refine W.widen (k := (kc + 1)) (n := (ks + 6)) (by omega) (by omega) ?_
  refine W.eq (g2 := F0 m 655 ls [.int y1]) (by rw [hr9]) ?_
  refine lv_istore (pc := 655) hx hb dL_law_655 hl (by decide) rfl (fun ls hl => ?_)
  have hl : lv_has ls 7 [(5, .int y1), (4, .int i), (3, .ref (ad 24 0)), (2, .ref (ad 4 0)), (1, .ref (ad 0 0)), (0, .ref b)] := hl
  refine lv_aload_n (pc := 657) hx hb dL_law_657 rfl (lv_at hl 3 rfl) ?_
  refine lv_aload_n (pc := 658) hx hb dL_law_658 rfl (lv_at hl 5 rfl) ?_
  refine lv_iload (pc := 659) hx hb dL_law_659 (lv_at hl 1 rfl) ?_
  refine lv_iconst (pc := 661) (v := 1) hx hb dL_law_661 (by decide) ?_
  refine lv_iadd (pc := 662) hx hb dL_law_662 ?_
  refine va_sld (A := A) (pc := 663) hx hb hX hbl hbA hS hv1 dL_law_663 ?_
  refine W.eq (g2 := F0 m 664 ls [.int v1, .ref (ad 4 0)]) (by rw [e1]) ?_
  refine lv_aload_n (pc := 664) hx hb dL_law_664 rfl (lv_at hl 5 rfl) ?_
  refine lv_iload (pc := 665) hx hb dL_law_665 (lv_at hl 1 rfl) ?_
  refine lv_iconst (pc := 667) (v := 2) hx hb dL_law_667 (by decide) ?_
  refine lv_iadd (pc := 668) hx hb dL_law_668 ?_
  refine va_sld (A := A) (pc := 669) hx hb hX hbl hbA hS hv2 dL_law_669 ?_
  refine W.eq (g2 := F0 m 670 ls [.int v2, .int v1, .ref (ad 4 0)]) (by rw [e2]) ?_
  refine lv_aload_n (pc := 670) hx hb dL_law_670 rfl (lv_at hl 5 rfl) ?_
  refine lv_iload (pc := 671) hx hb dL_law_671 (lv_at hl 1 rfl) ?_
  refine lv_iconst (pc := 673) (v := 3) hx hb dL_law_673 (by decide) ?_
  refine lv_iadd (pc := 674) hx hb dL_law_674 ?_
  refine va_sld (A := A) (pc := 675) hx hb hX hbl hbA hS hv3 dL_law_675 ?_
  refine W.eq (g2 := F0 m 676 ls [.int v3, .int v2, .int v1, .ref (ad 4 0)]) (by rw [e3]) ?_
  obtain ⟨q3, hq3, eq3⟩ := at_4 (ad := ad) (ca := ca) (σ := σ2) hmM
  obtain ⟨⟨y4, σ5⟩, hy4, hf⟩ := ob hf
  have hFc := w9_free hD hS hA
  refine va_calli (pc := 676) (va_runV (As := [.int v1, .int v2, .int v3]) (rest := []) ⟨hx, hb, hml, hown, hts⟩ (t_M_release l dC dI ad ca dom H.size n σ2 v1 v2 v3 hmM hN hC y4 σ5 hy4) (cwV 3 hts (gV wd_856 wd_857 wd_858 wd_50 wd_855) rfl rfl rfl (by decide +kernel) ⟨Nat.le_of_ble_eq_true rfl, Nat.le_of_ble_eq_true rfl⟩) ⟨hW_blind, va_recv (q := (RM, TM, 11)) (q0 := q3) (ci := 4) hK.1 hP rfl eq3, hW_pre hP hK hD hG⟩ rfl rfl hl.1 rfl (lv_room (Nat.le_of_ble_eq_true rfl)) dL_law_676 ⟨show kc + 1 + 0 ≤ 601024 by omega, show ks + 6 + 0 ≤ 7293033 by omega⟩) hS (fun q _ h => hFc q h) hFc (fun r9 u t H1 locs ht hvm hr9 hB hz1 hk1 hS => ?_)
  obtain ⟨hP, hD, hC⟩ := hB
  rw [ht] at hP
  replace hD := hD.weaken (fun _ _ _ h => hFc _ h)
  generalize H1 = H at hP hS ⊢
  refine W.eq (g2 := F0 m 679 ls [.int y4]) (by rw [hr9]) ?_
  refine lv_istore (pc := 679) hx hb dL_law_679 hl (by decide) rfl (fun ls hl => ?_)
  have hl : lv_has ls 7 [(6, .int y4), (5, .int y1), (4, .int i), (3, .ref (ad 24 0)), (2, .ref (ad 4 0)), (1, .ref (ad 0 0)), (0, .ref b)] := hl
  refine lv_goto (pc := 681) (tgt := 1217) hx hb dL_law_681 rfl ?_
  obtain ⟨-, h9⟩ := Prod.mk.inj (Option.some.inj hf)
  subst h9
  have hl := lv_sub hl (l' := [(4, .int i), (3, .ref (ad 24 0)), (2, .ref (ad 4 0)), (1, .ref (ad 0 0)), (0, .ref b)]) [2, 3, 4, 5, 6] rfl
  refine W.widen (k := kc + 16) (n := ks + 101) (by omega) (by omega) ?_
  exact kk ad ca dom H _ ls rfl hN hC hP hD hK hS hl
set_option maxHeartbeats 4000000 in
set_option maxRecDepth 100000 in
theorem lawc_11 {p : Program} {l : Launch} {e : Env} {s : State} {m : MethodId} {below : List Frame} {meth : Method} {c : Code} {b L : Nat} {xs : Nat → Int32} {A : Nat → Prop} {H : Heap} {locs : List Loc} {ls : Array Slot} {dC : Nat → ClassId} {dI : Nat → Nat → Nat} {Q : State → Prop} {kc ks : Nat} (hfl : l.stackTraces = false) (C : lawH p s m meth c b L xs A) (ad : Nat → Nat → Nat) (ca : Nat → Nat → ClassId) (dom : List (Nat × Nat)) (σ : hT) (i : Int32) (n : Nat) (v1 v2 v3 v4 v5 : Int32)
    (hv1 : vp_in (i + 1) L) (hv2 : vp_in (i + 2) L) (hv3 : vp_in (i + 3) L) (hv4 : vp_in (i + 4) L) (hv5 : vp_in (i + 5) L) (e1 : xs (i + 1).toNatClampNeg = v1) (e2 : xs (i + 2).toNatClampNeg = v2) (e3 : xs (i + 3).toNatClampNeg = v3) (e4 : xs (i + 4).toNatClampNeg = v4) (e5 : xs (i + 5).toNatClampNeg = v5)
    (hmV : (0, 0) ∈ dom) (hmM : (4, 0) ∈ dom) (hmO : (24, 0) ∈ dom) (hN : dom.Nodup) (hC : clo dom σ.2.2) (hP : va_P (dC, dI) kCl (w9 ad ca dom σ) H) (hD : va_D A (w9 ad ca dom σ)) (hK : hkt (dC, dI) ca dom s) (hS : va_S A s.heap H locs) (hl : lv_has ls 7 [(4, .int i), (3, .ref (ad 24 0)), (2, .ref (ad 4 0)), (1, .ref (ad 0 0)), (0, .ref b)]) (hkc : kc + 16 ≤ 601024) (hks : ks + 101 ≤ 7293033) (σ' : hT) (hf : LC_11 n σ v1 v2 v3 v4 v5 = some (1, σ'))
    (kk : ∀ (ad' : Nat → Nat → Nat) (ca' : Nat → Nat → ClassId) (dom' : List (Nat × Nat)) (H' : Heap) (locs' : List Loc) (ls' : Array Slot), dom' = dom → dom'.Nodup → clo dom' σ'.2.2 → va_P (dC, dI) kCl (w9 ad' ca' dom' σ') H' → va_D A (w9 ad' ca' dom' σ') → hkt (dC, dI) ca' dom' s → va_S A s.heap H' locs' → lv_has ls' 7 [(4, .int i), (3, .ref (ad' 24 0)), (2, .ref (ad' 4 0)), (1, .ref (ad' 0 0)), (0, .ref b)] → W p l e room_1 s m #[Value.ref b] below meth c H' locs' (kc + 16) (ks + 101) Q (F0 m 1217 ls' [])) :
    W p l e room_1 s m #[Value.ref b] below meth c H locs kc ks Q (F0 m 684 ls []) := by
  obtain ⟨hx, hb, hr, hml, hown, hts, hX, hbl, hbA, hlocks, hA, hA2, hG, hE0⟩ := C
  unfold LC_11 at hf
  refine lv_aload_n (pc := 684) hx hb dL_law_684 rfl (lv_at hl 3 rfl) ?_
  refine lv_aload_n (pc := 685) hx hb dL_law_685 rfl (lv_at hl 4 rfl) ?_
  refine lv_iload (pc := 686) hx hb dL_law_686 (lv_at hl 0 rfl) ?_
  refine lv_iconst (pc := 688) (v := 1) hx hb dL_law_688 (by decide) ?_
  refine lv_iadd (pc := 689) hx hb dL_law_689 ?_
  refine va_sld (A := A) (pc := 690) hx hb hX hbl hbA hS hv1 dL_law_690 ?_
  refine W.eq (g2 := F0 m 691 ls [.int v1, .ref (ad 0 0)]) (by rw [e1]) ?_
  refine lv_aload_n (pc := 691) hx hb dL_law_691 rfl (lv_at hl 4 rfl) ?_
  refine lv_iload (pc := 692) hx hb dL_law_692 (lv_at hl 0 rfl) ?_
  refine lv_iconst (pc := 694) (v := 2) hx hb dL_law_694 (by decide) ?_
  refine lv_iadd (pc := 695) hx hb dL_law_695 ?_
  refine va_sld (A := A) (pc := 696) hx hb hX hbl hbA hS hv2 dL_law_696 ?_
  refine W.eq (g2 := F0 m 697 ls [.int v2, .int v1, .ref (ad 0 0)]) (by rw [e2]) ?_
  refine lv_aload_n (pc := 697) hx hb dL_law_697 rfl (lv_at hl 4 rfl) ?_
  refine lv_iload (pc := 698) hx hb dL_law_698 (lv_at hl 0 rfl) ?_
  refine lv_iconst (pc := 700) (v := 3) hx hb dL_law_700 (by decide) ?_
  refine lv_iadd (pc := 701) hx hb dL_law_701 ?_
  refine va_sld (A := A) (pc := 702) hx hb hX hbl hbA hS hv3 dL_law_702 ?_
  refine W.eq (g2 := F0 m 703 ls [.int v3, .int v2, .int v1, .ref (ad 0 0)]) (by rw [e3]) ?_
  refine lv_aload_n (pc := 703) hx hb dL_law_703 rfl (lv_at hl 1 rfl) ?_
  obtain ⟨⟨y1, σ2⟩, hy1, hf⟩ := ob hf
  have hE := xE.mono hE0 (fun q z => hA2 q (w9_xA hD z))
  have hSA : ∀ q : Nat, q < s.heap.size → A q → xS ad dom q := fun q h z => absurd (hA2 q z) (Nat.not_le.mpr h)
  have hFc := w9_free hD hS hA
  refine va_calli (pc := 704) (hxR (As := [.ref (ad 0 0), .int v1, .int v2, .int v3, .ref (ad 24 0)]) (rest := []) ⟨hx, hb, hml, hown, hts⟩ (t_L_withdraw l dC dI ad ca dom H.size n σ v1 v2 v3 hmV hmO hN hC hfl y1 σ2 hy1) 5 wd_860 wd_861 wd_777 wd_859 rfl rfl ⟨Nat.le_of_ble_eq_true rfl, Nat.le_of_ble_eq_true rfl⟩ (by decide +kernel) ⟨hX_blind, hX_pre hP hK hD hG hE hS hSA⟩ rfl rfl hl.1 rfl (lv_room (Nat.le_of_ble_eq_true rfl)) dL_law_704 ⟨show kc + 0 + 1 ≤ 601024 by omega, show ks + 0 + 6 ≤ 7293033 by omega⟩) hS (fun q _ h => hFc q h) hFc (fun r9 u t H1 locs ht hvm hr9 hB hz1 hk1 hS => ?_)
  obtain ⟨hP, hD, hC⟩ := hB
  rw [ht] at hP
  replace hD := hD.weaken (fun _ _ _ h => hFc _ h)
  generalize H1 = H at hP hS ⊢
  refine W.widen (k := (kc + 1)) (n := (ks + 6)) (by omega) (by omega) ?_
  refine W.eq (g2 := F0 m 707 ls [.int y1]) (by rw [hr9]) ?_
  refine lv_istore (pc := 707) hx hb dL_law_707 hl (by decide) rfl (fun ls hl => ?_)
  have hl : lv_has ls 7 [(5, .int y1), (4, .int i), (3, .ref (ad 24 0)), (2, .ref (ad 4 0)), (1, .ref (ad 0 0)), (0, .ref b)] := hl
  refine lv_aload_n (pc := 709) hx hb dL_law_709 rfl (lv_at hl 3 rfl) ?_
  refine lv_aload_n (pc := 710) hx hb dL_law_710 rfl (lv_at hl 5 rfl) ?_
  refine lv_iload (pc := 711) hx hb dL_law_711 (lv_at hl 1 rfl) ?_
  refine lv_iconst (pc := 713) (v := 1) hx hb dL_law_713 (by decide) ?_
  refine lv_iadd (pc := 714) hx hb dL_law_714 ?_
  refine va_sld (A := A) (pc := 715) hx hb hX hbl hbA hS hv1 dL_law_715 ?_
  refine W.eq (g2 := F0 m 716 ls [.int v1, .ref (ad 4 0)]) (by rw [e1]) ?_
  refine lv_aload_n (pc := 716) hx hb dL_law_716 rfl (lv_at hl 5 rfl) ?_
  refine lv_iload (pc := 717) hx hb dL_law_717 (lv_at hl 1 rfl) ?_
  refine lv_iconst (pc := 719) (v := 2) hx hb dL_law_719 (by decide) ?_
  refine lv_iadd (pc := 720) hx hb dL_law_720 ?_
  refine va_sld (A := A) (pc := 721) hx hb hX hbl hbA hS hv2 dL_law_721 ?_
  refine W.eq (g2 := F0 m 722 ls [.int v2, .int v1, .ref (ad 4 0)]) (by rw [e2]) ?_
  refine lv_aload_n (pc := 722) hx hb dL_law_722 rfl (lv_at hl 5 rfl) ?_
  refine lv_iload (pc := 723) hx hb dL_law_723 (lv_at hl 1 rfl) ?_
  refine lv_iconst (pc := 725) (v := 3) hx hb dL_law_725 (by decide) ?_
  refine lv_iadd (pc := 726) hx hb dL_law_726 ?_
  refine va_sld (A := A) (pc := 727) hx hb hX hbl hbA hS hv3 dL_law_727 ?_
  refine W.eq (g2 := F0 m 728 ls [.int v3, .int v2, .int v1, .ref (ad 4 0)]) (by rw [e3]) ?_
  obtain ⟨q3, hq3, eq3⟩ := at_4 (ad := ad) (ca := ca) (σ := σ2) hmM
  obtain ⟨⟨y4, σ5⟩, hy4, hf⟩ := ob hf
  have hFc := w9_free hD hS hA
  refine va_calli (pc := 728) (va_runV (As := [.int v1, .int v2, .int v3]) (rest := []) ⟨hx, hb, hml, hown, hts⟩ (t_M_withdraw l dC dI ad ca dom H.size n σ2 v1 v2 v3 hmM hN hC y4 σ5 hy4) (cwV 3 hts (gV wd_863 wd_864 wd_865 wd_50 wd_862) rfl rfl rfl (by decide +kernel) ⟨Nat.le_of_ble_eq_true rfl, Nat.le_of_ble_eq_true rfl⟩) ⟨hW_blind, va_recv (q := (RM, TM, 11)) (q0 := q3) (ci := 4) hK.1 hP rfl eq3, hW_pre hP hK hD hG⟩ rfl rfl hl.1 rfl (lv_room (Nat.le_of_ble_eq_true rfl)) dL_law_728 ⟨show kc + 1 + 0 ≤ 601024 by omega, show ks + 6 + 0 ≤ 7293033 by omega⟩) hS (fun q _ h => hFc q h) hFc (fun r9 u t H1 locs ht hvm hr9 hB hz1 hk1 hS => ?_)
  obtain ⟨hP, hD, hC⟩ := hB
  rw [ht] at hP
  replace hD := hD.weaken (fun _ _ _ h => hFc _ h)
  generalize H1 = H at hP hS ⊢
  refine W.eq (g2 := F0 m 731 ls [.int y4]) (by rw [hr9]) ?_
  refine lv_istore (pc := 731) hx hb dL_law_731 hl (by decide) rfl (fun ls hl => ?_)
  have hl : lv_has ls 7 [(6, .int y4), (5, .int y1), (4, .int i), (3, .ref (ad 24 0)), (2, .ref (ad 4 0)), (1, .ref (ad 0 0)), (0, .ref b)] := hl
  refine lv_goto (pc := 733) (tgt := 1217) hx hb dL_law_733 rfl ?_
  obtain ⟨-, h9⟩ := Prod.mk.inj (Option.some.inj hf)
  subst h9
  have hl := lv_sub hl (l' := [(4, .int i), (3, .ref (ad 24 0)), (2, .ref (ad 4 0)), (1, .ref (ad 0 0)), (0, .ref b)]) [2, 3, 4, 5, 6] rfl
  refine W.widen (k := kc + 16) (n := ks + 101) (by omega) (by omega) ?_
  exact kk ad ca dom H _ ls rfl hN hC hP hD hK hS hl
set_option maxHeartbeats 4000000 in
set_option maxRecDepth 100000 in
theorem lawc_13 {p : Program} {l : Launch} {e : Env} {s : State} {m : MethodId} {below : List Frame} {meth : Method} {c : Code} {b L : Nat} {xs : Nat → Int32} {A : Nat → Prop} {H : Heap} {locs : List Loc} {ls : Array Slot} {dC : Nat → ClassId} {dI : Nat → Nat → Nat} {Q : State → Prop} {kc ks : Nat} (hfl : l.stackTraces = false) (C : lawH p s m meth c b L xs A) (ad : Nat → Nat → Nat) (ca : Nat → Nat → ClassId) (dom : List (Nat × Nat)) (σ : hT) (i : Int32) (n : Nat) (v1 v2 v3 v4 v5 : Int32)
    (hv1 : vp_in (i + 1) L) (hv2 : vp_in (i + 2) L) (hv3 : vp_in (i + 3) L) (hv4 : vp_in (i + 4) L) (hv5 : vp_in (i + 5) L) (e1 : xs (i + 1).toNatClampNeg = v1) (e2 : xs (i + 2).toNatClampNeg = v2) (e3 : xs (i + 3).toNatClampNeg = v3) (e4 : xs (i + 4).toNatClampNeg = v4) (e5 : xs (i + 5).toNatClampNeg = v5)
    (hmV : (0, 0) ∈ dom) (hmM : (4, 0) ∈ dom) (hmO : (24, 0) ∈ dom) (hN : dom.Nodup) (hC : clo dom σ.2.2) (hP : va_P (dC, dI) kCl (w9 ad ca dom σ) H) (hD : va_D A (w9 ad ca dom σ)) (hK : hkt (dC, dI) ca dom s) (hS : va_S A s.heap H locs) (hl : lv_has ls 7 [(4, .int i), (3, .ref (ad 24 0)), (2, .ref (ad 4 0)), (1, .ref (ad 0 0)), (0, .ref b)]) (hkc : kc + 16 ≤ 601024) (hks : ks + 101 ≤ 7293033) (σ' : hT) (hf : LC_13 n σ v1 v2 v3 v4 v5 = some (1, σ'))
    (kk : ∀ (ad' : Nat → Nat → Nat) (ca' : Nat → Nat → ClassId) (dom' : List (Nat × Nat)) (H' : Heap) (locs' : List Loc) (ls' : Array Slot), dom' = dom → dom'.Nodup → clo dom' σ'.2.2 → va_P (dC, dI) kCl (w9 ad' ca' dom' σ') H' → va_D A (w9 ad' ca' dom' σ') → hkt (dC, dI) ca' dom' s → va_S A s.heap H' locs' → lv_has ls' 7 [(4, .int i), (3, .ref (ad' 24 0)), (2, .ref (ad' 4 0)), (1, .ref (ad' 0 0)), (0, .ref b)] → W p l e room_1 s m #[Value.ref b] below meth c H' locs' (kc + 16) (ks + 101) Q (F0 m 1217 ls' [])) :
    W p l e room_1 s m #[Value.ref b] below meth c H locs kc ks Q (F0 m 776 ls []) := by
  obtain ⟨hx, hb, hr, hml, hown, hts, hX, hbl, hbA, hlocks, hA, hA2, hG, hE0⟩ := C
  unfold LC_13 at hf
  refine lv_aload_n (pc := 776) hx hb dL_law_776 rfl (lv_at hl 3 rfl) ?_
  obtain ⟨q1, hq1, eq1⟩ := at_0 (ad := ad) (ca := ca) (σ := σ) hmV
  refine vp_callSi (pc := 777) (W.runV (As := []) (rest := []) ⟨hx, hb, hml, hown, hts⟩ (t_V_why l dC dI ad ca dom σ hmV hN hC (V_why σ) rfl) (cwV 0 hts (gV wd_867 wd_868 wd_869 wd_254 wd_866) rfl rfl rfl (by decide +kernel) ⟨Nat.le_of_ble_eq_true rfl, Nat.le_of_ble_eq_true rfl⟩) ⟨hR_blind, va_recv (q := (RV, TV, 9)) (q0 := q1) (ci := 0) hK.1 hP rfl eq1, hR_pre hP hK hG⟩ rfl rfl hl.1 rfl (lv_room (Nat.le_of_ble_eq_true rfl)) dL_law_777 ⟨show kc + 0 + 0 ≤ 601024 by omega, show ks + 0 + 0 ≤ 7293033 by omega⟩) (fun r9 hr9 => ?_)
  refine W.eq (g2 := F0 m 780 ls [.int (V_why σ)]) (by rw [hr9]) ?_
  refine lv_pop (pc := 780) hx hb dL_law_780 rfl ?_
  refine lv_aload_n (pc := 781) hx hb dL_law_781 rfl (lv_at hl 2 rfl) ?_
  obtain ⟨q2, hq2, eq2⟩ := at_4 (ad := ad) (ca := ca) (σ := σ) hmM
  obtain ⟨⟨y3, σ4⟩, hy3, hf⟩ := ob hf
  have hFc := w9_free hD hS hA
  refine va_calli (pc := 782) (va_runV (As := []) (rest := []) ⟨hx, hb, hml, hown, hts⟩ (t_M_why l dC dI ad ca dom H.size σ hmM hN hC y3 σ4 hy3) (cwV 0 hts (gV wd_871 wd_872 wd_873 wd_50 wd_870) rfl rfl rfl (by decide +kernel) ⟨Nat.le_of_ble_eq_true rfl, Nat.le_of_ble_eq_true rfl⟩) ⟨hW_blind, va_recv (q := (RM, TM, 11)) (q0 := q2) (ci := 4) hK.1 hP rfl eq2, hW_pre hP hK hD hG⟩ rfl rfl hl.1 rfl (lv_room (Nat.le_of_ble_eq_true rfl)) dL_law_782 ⟨show kc + 0 + 0 ≤ 601024 by omega, show ks + 0 + 0 ≤ 7293033 by omega⟩) hS (fun q _ h => hFc q h) hFc (fun r9 u t H1 locs ht hvm hr9 hB hz1 hk1 hS => ?_)
  obtain ⟨hP, hD, hC⟩ := hB
  rw [ht] at hP
  replace hD := hD.weaken (fun _ _ _ h => hFc _ h)
  generalize H1 = H at hP hS ⊢
  refine W.eq (g2 := F0 m 785 ls [.int y3]) (by rw [hr9]) ?_
  refine lv_pop (pc := 785) hx hb dL_law_785 rfl ?_
  refine lv_goto (pc := 786) (tgt := 1217) hx hb dL_law_786 rfl ?_
  obtain ⟨-, h9⟩ := Prod.mk.inj (Option.some.inj hf)
  subst h9
  have hl := lv_sub hl (l' := [(4, .int i), (3, .ref (ad 24 0)), (2, .ref (ad 4 0)), (1, .ref (ad 0 0)), (0, .ref b)]) [0, 1, 2, 3, 4] rfl
  refine W.widen (k := kc + 16) (n := ks + 101) (by omega) (by omega) ?_
  exact kk ad ca dom H _ ls rfl hN hC hP hD hK hS hl
set_option maxHeartbeats 4000000 in
set_option maxRecDepth 100000 in
theorem lawc_14 {p : Program} {l : Launch} {e : Env} {s : State} {m : MethodId} {below : List Frame} {meth : Method} {c : Code} {b L : Nat} {xs : Nat → Int32} {A : Nat → Prop} {H : Heap} {locs : List Loc} {ls : Array Slot} {dC : Nat → ClassId} {dI : Nat → Nat → Nat} {Q : State → Prop} {kc ks : Nat} (hfl : l.stackTraces = false) (C : lawH p s m meth c b L xs A) (ad : Nat → Nat → Nat) (ca : Nat → Nat → ClassId) (dom : List (Nat × Nat)) (σ : hT) (i : Int32) (n : Nat) (v1 v2 v3 v4 v5 : Int32)
    (hv1 : vp_in (i + 1) L) (hv2 : vp_in (i + 2) L) (hv3 : vp_in (i + 3) L) (hv4 : vp_in (i + 4) L) (hv5 : vp_in (i + 5) L) (e1 : xs (i + 1).toNatClampNeg = v1) (e2 : xs (i + 2).toNatClampNeg = v2) (e3 : xs (i + 3).toNatClampNeg = v3) (e4 : xs (i + 4).toNatClampNeg = v4) (e5 : xs (i + 5).toNatClampNeg = v5)
    (hmV : (0, 0) ∈ dom) (hmM : (4, 0) ∈ dom) (hmO : (24, 0) ∈ dom) (hN : dom.Nodup) (hC : clo dom σ.2.2) (hP : va_P (dC, dI) kCl (w9 ad ca dom σ) H) (hD : va_D A (w9 ad ca dom σ)) (hK : hkt (dC, dI) ca dom s) (hS : va_S A s.heap H locs) (hl : lv_has ls 7 [(4, .int i), (3, .ref (ad 24 0)), (2, .ref (ad 4 0)), (1, .ref (ad 0 0)), (0, .ref b)]) (hkc : kc + 16 ≤ 601024) (hks : ks + 101 ≤ 7293033) (σ' : hT) (hf : LC_14 n σ v1 v2 v3 v4 v5 = some (1, σ'))
    (kk : ∀ (ad' : Nat → Nat → Nat) (ca' : Nat → Nat → ClassId) (dom' : List (Nat × Nat)) (H' : Heap) (locs' : List Loc) (ls' : Array Slot), dom' = dom → dom'.Nodup → clo dom' σ'.2.2 → va_P (dC, dI) kCl (w9 ad' ca' dom' σ') H' → va_D A (w9 ad' ca' dom' σ') → hkt (dC, dI) ca' dom' s → va_S A s.heap H' locs' → lv_has ls' 7 [(4, .int i), (3, .ref (ad' 24 0)), (2, .ref (ad' 4 0)), (1, .ref (ad' 0 0)), (0, .ref b)] → W p l e room_1 s m #[Value.ref b] below meth c H' locs' (kc + 16) (ks + 101) Q (F0 m 1217 ls' [])) :
    W p l e room_1 s m #[Value.ref b] below meth c H locs kc ks Q (F0 m 789 ls []) := by
  obtain ⟨hx, hb, hr, hml, hown, hts, hX, hbl, hbA, hlocks, hA, hA2, hG, hE0⟩ := C
  unfold LC_14 at hf
  refine lv_aload_n (pc := 789) hx hb dL_law_789 rfl (lv_at hl 3 rfl) ?_
  refine lv_aload_n (pc := 790) hx hb dL_law_790 rfl (lv_at hl 4 rfl) ?_
  refine lv_iload (pc := 791) hx hb dL_law_791 (lv_at hl 0 rfl) ?_
  refine lv_iconst (pc := 793) (v := 1) hx hb dL_law_793 (by decide) ?_
  refine lv_iadd (pc := 794) hx hb dL_law_794 ?_
  refine va_sld (A := A) (pc := 795) hx hb hX hbl hbA hS hv1 dL_law_795 ?_
  refine W.eq (g2 := F0 m 796 ls [.int v1, .ref (ad 0 0)]) (by rw [e1]) ?_
  refine lv_aload_n (pc := 796) hx hb dL_law_796 rfl (lv_at hl 4 rfl) ?_
  refine lv_iload (pc := 797) hx hb dL_law_797 (lv_at hl 0 rfl) ?_
  refine lv_iconst (pc := 799) (v := 2) hx hb dL_law_799 (by decide) ?_
  refine lv_iadd (pc := 800) hx hb dL_law_800 ?_
  refine va_sld (A := A) (pc := 801) hx hb hX hbl hbA hS hv2 dL_law_801 ?_
  refine W.eq (g2 := F0 m 802 ls [.int v2, .int v1, .ref (ad 0 0)]) (by rw [e2]) ?_
  refine lv_aload_n (pc := 802) hx hb dL_law_802 rfl (lv_at hl 4 rfl) ?_
  refine lv_iload (pc := 803) hx hb dL_law_803 (lv_at hl 0 rfl) ?_
  refine lv_iconst (pc := 805) (v := 3) hx hb dL_law_805 (by decide) ?_
  refine lv_iadd (pc := 806) hx hb dL_law_806 ?_
  refine va_sld (A := A) (pc := 807) hx hb hX hbl hbA hS hv3 dL_law_807 ?_
  refine W.eq (g2 := F0 m 808 ls [.int v3, .int v2, .int v1, .ref (ad 0 0)]) (by rw [e3]) ?_
  refine lv_aload_n (pc := 808) hx hb dL_law_808 rfl (lv_at hl 1 rfl) ?_
  obtain ⟨⟨y1, σ2⟩, hy1, hf⟩ := ob hf
  have hE := xE.mono hE0 (fun q z => hA2 q (w9_xA hD z))
  have hSA : ∀ q : Nat, q < s.heap.size → A q → xS ad dom q := fun q h z => absurd (hA2 q z) (Nat.not_le.mpr h)
  have hFc := w9_free hD hS hA
  refine va_calli (pc := 809) (hxR (As := [.ref (ad 0 0), .int v1, .int v2, .int v3, .ref (ad 24 0)]) (rest := []) ⟨hx, hb, hml, hown, hts⟩ (t_L_look l dC dI ad ca dom H.size n σ v1 v2 v3 hmV hmO hN hC hfl y1 σ2 hy1) 5 wd_875 wd_876 wd_777 wd_874 rfl rfl ⟨Nat.le_of_ble_eq_true rfl, Nat.le_of_ble_eq_true rfl⟩ (by decide +kernel) ⟨hX_blind, hX_pre hP hK hD hG hE hS hSA⟩ rfl rfl hl.1 rfl (lv_room (Nat.le_of_ble_eq_true rfl)) dL_law_809 ⟨show kc + 0 + 1 ≤ 601024 by omega, show ks + 0 + 6 ≤ 7293033 by omega⟩) hS (fun q _ h => hFc q h) hFc (fun r9 u t H1 locs ht hvm hr9 hB hz1 hk1 hS => ?_)
  obtain ⟨hP, hD, hC⟩ := hB
  rw [ht] at hP
  replace hD := hD.weaken (fun _ _ _ h => hFc _ h)
  generalize H1 = H at hP hS ⊢
  refine W.widen (k := (kc + 1)) (n := (ks + 6)) (by omega) (by omega) ?_
  refine W.eq (g2 := F0 m 812 ls [.int y1]) (by rw [hr9]) ?_
  refine lv_istore (pc := 812) hx hb dL_law_812 hl (by decide) rfl (fun ls hl => ?_)
  have hl : lv_has ls 7 [(5, .int y1), (4, .int i), (3, .ref (ad 24 0)), (2, .ref (ad 4 0)), (1, .ref (ad 0 0)), (0, .ref b)] := hl
  refine lv_aload_n (pc := 814) hx hb dL_law_814 rfl (lv_at hl 3 rfl) ?_
  refine lv_aload_n (pc := 815) hx hb dL_law_815 rfl (lv_at hl 5 rfl) ?_
  refine lv_iload (pc := 816) hx hb dL_law_816 (lv_at hl 1 rfl) ?_
  refine lv_iconst (pc := 818) (v := 1) hx hb dL_law_818 (by decide) ?_
  refine lv_iadd (pc := 819) hx hb dL_law_819 ?_
  refine va_sld (A := A) (pc := 820) hx hb hX hbl hbA hS hv1 dL_law_820 ?_
  refine W.eq (g2 := F0 m 821 ls [.int v1, .ref (ad 4 0)]) (by rw [e1]) ?_
  refine lv_aload_n (pc := 821) hx hb dL_law_821 rfl (lv_at hl 5 rfl) ?_
  refine lv_iload (pc := 822) hx hb dL_law_822 (lv_at hl 1 rfl) ?_
  refine lv_iconst (pc := 824) (v := 2) hx hb dL_law_824 (by decide) ?_
  refine lv_iadd (pc := 825) hx hb dL_law_825 ?_
  refine va_sld (A := A) (pc := 826) hx hb hX hbl hbA hS hv2 dL_law_826 ?_
  refine W.eq (g2 := F0 m 827 ls [.int v2, .int v1, .ref (ad 4 0)]) (by rw [e2]) ?_
  refine lv_aload_n (pc := 827) hx hb dL_law_827 rfl (lv_at hl 5 rfl) ?_
  refine lv_iload (pc := 828) hx hb dL_law_828 (lv_at hl 1 rfl) ?_
  refine lv_iconst (pc := 830) (v := 3) hx hb dL_law_830 (by decide) ?_
  refine lv_iadd (pc := 831) hx hb dL_law_831 ?_
  refine va_sld (A := A) (pc := 832) hx hb hX hbl hbA hS hv3 dL_law_832 ?_
  refine W.eq (g2 := F0 m 833 ls [.int v3, .int v2, .int v1, .ref (ad 4 0)]) (by rw [e3]) ?_
  obtain ⟨q3, hq3, eq3⟩ := at_4 (ad := ad) (ca := ca) (σ := σ2) hmM
  obtain ⟨⟨y4, σ5⟩, hy4, hf⟩ := ob hf
  have hFc := w9_free hD hS hA
  refine va_calli (pc := 833) (va_runV (As := [.int v1, .int v2, .int v3]) (rest := []) ⟨hx, hb, hml, hown, hts⟩ (t_M_look l dC dI ad ca dom H.size n σ2 v1 v2 v3 hmM hN hC y4 σ5 hy4) (cwV 3 hts (gV wd_878 wd_879 wd_880 wd_50 wd_877) rfl rfl rfl (by decide +kernel) ⟨Nat.le_of_ble_eq_true rfl, Nat.le_of_ble_eq_true rfl⟩) ⟨hW_blind, va_recv (q := (RM, TM, 11)) (q0 := q3) (ci := 4) hK.1 hP rfl eq3, hW_pre hP hK hD hG⟩ rfl rfl hl.1 rfl (lv_room (Nat.le_of_ble_eq_true rfl)) dL_law_833 ⟨show kc + 1 + 0 ≤ 601024 by omega, show ks + 6 + 0 ≤ 7293033 by omega⟩) hS (fun q _ h => hFc q h) hFc (fun r9 u t H1 locs ht hvm hr9 hB hz1 hk1 hS => ?_)
  obtain ⟨hP, hD, hC⟩ := hB
  rw [ht] at hP
  replace hD := hD.weaken (fun _ _ _ h => hFc _ h)
  generalize H1 = H at hP hS ⊢
  refine W.eq (g2 := F0 m 836 ls [.int y4]) (by rw [hr9]) ?_
  refine lv_istore (pc := 836) hx hb dL_law_836 hl (by decide) rfl (fun ls hl => ?_)
  have hl : lv_has ls 7 [(6, .int y4), (5, .int y1), (4, .int i), (3, .ref (ad 24 0)), (2, .ref (ad 4 0)), (1, .ref (ad 0 0)), (0, .ref b)] := hl
  refine lv_goto (pc := 838) (tgt := 1217) hx hb dL_law_838 rfl ?_
  obtain ⟨-, h9⟩ := Prod.mk.inj (Option.some.inj hf)
  subst h9
  have hl := lv_sub hl (l' := [(4, .int i), (3, .ref (ad 24 0)), (2, .ref (ad 4 0)), (1, .ref (ad 0 0)), (0, .ref b)]) [2, 3, 4, 5, 6] rfl
  refine W.widen (k := kc + 16) (n := ks + 101) (by omega) (by omega) ?_
  exact kk ad ca dom H _ ls rfl hN hC hP hD hK hS hl
set_option maxHeartbeats 4000000 in
set_option maxRecDepth 100000 in
theorem lawc_15 {p : Program} {l : Launch} {e : Env} {s : State} {m : MethodId} {below : List Frame} {meth : Method} {c : Code} {b L : Nat} {xs : Nat → Int32} {A : Nat → Prop} {H : Heap} {locs : List Loc} {ls : Array Slot} {dC : Nat → ClassId} {dI : Nat → Nat → Nat} {Q : State → Prop} {kc ks : Nat} (hfl : l.stackTraces = false) (C : lawH p s m meth c b L xs A) (ad : Nat → Nat → Nat) (ca : Nat → Nat → ClassId) (dom : List (Nat × Nat)) (σ : hT) (i : Int32) (n : Nat) (v1 v2 v3 v4 v5 : Int32)
    (hv1 : vp_in (i + 1) L) (hv2 : vp_in (i + 2) L) (hv3 : vp_in (i + 3) L) (hv4 : vp_in (i + 4) L) (hv5 : vp_in (i + 5) L) (e1 : xs (i + 1).toNatClampNeg = v1) (e2 : xs (i + 2).toNatClampNeg = v2) (e3 : xs (i + 3).toNatClampNeg = v3) (e4 : xs (i + 4).toNatClampNeg = v4) (e5 : xs (i + 5).toNatClampNeg = v5)
    (hmV : (0, 0) ∈ dom) (hmM : (4, 0) ∈ dom) (hmO : (24, 0) ∈ dom) (hN : dom.Nodup) (hC : clo dom σ.2.2) (hP : va_P (dC, dI) kCl (w9 ad ca dom σ) H) (hD : va_D A (w9 ad ca dom σ)) (hK : hkt (dC, dI) ca dom s) (hS : va_S A s.heap H locs) (hl : lv_has ls 7 [(4, .int i), (3, .ref (ad 24 0)), (2, .ref (ad 4 0)), (1, .ref (ad 0 0)), (0, .ref b)]) (hkc : kc + 16 ≤ 601024) (hks : ks + 101 ≤ 7293033) (σ' : hT) (hf : LC_15 n σ v1 v2 v3 v4 v5 = some (1, σ'))
    (kk : ∀ (ad' : Nat → Nat → Nat) (ca' : Nat → Nat → ClassId) (dom' : List (Nat × Nat)) (H' : Heap) (locs' : List Loc) (ls' : Array Slot), dom' = dom → dom'.Nodup → clo dom' σ'.2.2 → va_P (dC, dI) kCl (w9 ad' ca' dom' σ') H' → va_D A (w9 ad' ca' dom' σ') → hkt (dC, dI) ca' dom' s → va_S A s.heap H' locs' → lv_has ls' 7 [(4, .int i), (3, .ref (ad' 24 0)), (2, .ref (ad' 4 0)), (1, .ref (ad' 0 0)), (0, .ref b)] → W p l e room_1 s m #[Value.ref b] below meth c H' locs' (kc + 16) (ks + 101) Q (F0 m 1217 ls' [])) :
    W p l e room_1 s m #[Value.ref b] below meth c H locs kc ks Q (F0 m 841 ls []) := by
  obtain ⟨hx, hb, hr, hml, hown, hts, hX, hbl, hbA, hlocks, hA, hA2, hG, hE0⟩ := C
  unfold LC_15 at hf
  refine lv_aload_n (pc := 841) hx hb dL_law_841 rfl (lv_at hl 3 rfl) ?_
  refine lv_aload_n (pc := 842) hx hb dL_law_842 rfl (lv_at hl 4 rfl) ?_
  refine lv_iload (pc := 843) hx hb dL_law_843 (lv_at hl 0 rfl) ?_
  refine lv_iconst (pc := 845) (v := 1) hx hb dL_law_845 (by decide) ?_
  refine lv_iadd (pc := 846) hx hb dL_law_846 ?_
  refine va_sld (A := A) (pc := 847) hx hb hX hbl hbA hS hv1 dL_law_847 ?_
  refine W.eq (g2 := F0 m 848 ls [.int v1, .ref (ad 0 0)]) (by rw [e1]) ?_
  refine lv_aload_n (pc := 848) hx hb dL_law_848 rfl (lv_at hl 4 rfl) ?_
  refine lv_iload (pc := 849) hx hb dL_law_849 (lv_at hl 0 rfl) ?_
  refine lv_iconst (pc := 851) (v := 2) hx hb dL_law_851 (by decide) ?_
  refine lv_iadd (pc := 852) hx hb dL_law_852 ?_
  refine va_sld (A := A) (pc := 853) hx hb hX hbl hbA hS hv2 dL_law_853 ?_
  refine W.eq (g2 := F0 m 854 ls [.int v2, .int v1, .ref (ad 0 0)]) (by rw [e2]) ?_
  refine lv_aload_n (pc := 854) hx hb dL_law_854 rfl (lv_at hl 4 rfl) ?_
  refine lv_iload (pc := 855) hx hb dL_law_855 (lv_at hl 0 rfl) ?_
  refine lv_iconst (pc := 857) (v := 3) hx hb dL_law_857 (by decide) ?_
  refine lv_iadd (pc := 858) hx hb dL_law_858 ?_
  refine va_sld (A := A) (pc := 859) hx hb hX hbl hbA hS hv3 dL_law_859 ?_
  refine W.eq (g2 := F0 m 860 ls [.int v3, .int v2, .int v1, .ref (ad 0 0)]) (by rw [e3]) ?_
  refine lv_aload_n (pc := 860) hx hb dL_law_860 rfl (lv_at hl 4 rfl) ?_
  refine lv_iload (pc := 861) hx hb dL_law_861 (lv_at hl 0 rfl) ?_
  refine lv_iconst (pc := 863) (v := 4) hx hb dL_law_863 (by decide) ?_
  refine lv_iadd (pc := 864) hx hb dL_law_864 ?_
  refine va_sld (A := A) (pc := 865) hx hb hX hbl hbA hS hv4 dL_law_865 ?_
  refine W.eq (g2 := F0 m 866 ls [.int v4, .int v3, .int v2, .int v1, .ref (ad 0 0)]) (by rw [e4]) ?_
  refine lv_aload_n (pc := 866) hx hb dL_law_866 rfl (lv_at hl 1 rfl) ?_
  obtain ⟨⟨y1, σ2⟩, hy1, hf⟩ := ob hf
  have hE := xE.mono hE0 (fun q z => hA2 q (w9_xA hD z))
  have hSA : ∀ q : Nat, q < s.heap.size → A q → xS ad dom q := fun q h z => absurd (hA2 q z) (Nat.not_le.mpr h)
  have hFc := w9_free hD hS hA
  refine va_calli (pc := 867) (hxR (As := [.ref (ad 0 0), .int v1, .int v2, .int v3, .int v4, .ref (ad 24 0)]) (rest := []) ⟨hx, hb, hml, hown, hts⟩ (t_L_reference l dC dI ad ca dom H.size n σ v1 v2 v3 v4 hmV hmO hN hC hfl y1 σ2 hy1) 6 wd_882 wd_883 wd_777 wd_881 rfl rfl ⟨Nat.le_of_ble_eq_true rfl, Nat.le_of_ble_eq_true rfl⟩ (by decide +kernel) ⟨hX_blind, hX_pre hP hK hD hG hE hS hSA⟩ rfl rfl hl.1 rfl (lv_room (Nat.le_of_ble_eq_true rfl)) dL_law_867 ⟨show kc + 0 + 1 ≤ 601024 by omega, show ks + 0 + 6 ≤ 7293033 by omega⟩) hS (fun q _ h => hFc q h) hFc (fun r9 u t H1 locs ht hvm hr9 hB hz1 hk1 hS => ?_)
  obtain ⟨hP, hD, hC⟩ := hB
  rw [ht] at hP
  replace hD := hD.weaken (fun _ _ _ h => hFc _ h)
  generalize H1 = H at hP hS ⊢
  refine W.widen (k := (kc + 1)) (n := (ks + 6)) (by omega) (by omega) ?_
  refine W.eq (g2 := F0 m 870 ls [.int y1]) (by rw [hr9]) ?_
  refine lv_istore (pc := 870) hx hb dL_law_870 hl (by decide) rfl (fun ls hl => ?_)
  have hl : lv_has ls 7 [(5, .int y1), (4, .int i), (3, .ref (ad 24 0)), (2, .ref (ad 4 0)), (1, .ref (ad 0 0)), (0, .ref b)] := hl
  refine lv_aload_n (pc := 872) hx hb dL_law_872 rfl (lv_at hl 3 rfl) ?_
  refine lv_aload_n (pc := 873) hx hb dL_law_873 rfl (lv_at hl 5 rfl) ?_
  refine lv_iload (pc := 874) hx hb dL_law_874 (lv_at hl 1 rfl) ?_
  refine lv_iconst (pc := 876) (v := 1) hx hb dL_law_876 (by decide) ?_
  refine lv_iadd (pc := 877) hx hb dL_law_877 ?_
  refine va_sld (A := A) (pc := 878) hx hb hX hbl hbA hS hv1 dL_law_878 ?_
  refine W.eq (g2 := F0 m 879 ls [.int v1, .ref (ad 4 0)]) (by rw [e1]) ?_
  refine lv_aload_n (pc := 879) hx hb dL_law_879 rfl (lv_at hl 5 rfl) ?_
  refine lv_iload (pc := 880) hx hb dL_law_880 (lv_at hl 1 rfl) ?_
  refine lv_iconst (pc := 882) (v := 2) hx hb dL_law_882 (by decide) ?_
  refine lv_iadd (pc := 883) hx hb dL_law_883 ?_
  refine va_sld (A := A) (pc := 884) hx hb hX hbl hbA hS hv2 dL_law_884 ?_
  refine W.eq (g2 := F0 m 885 ls [.int v2, .int v1, .ref (ad 4 0)]) (by rw [e2]) ?_
  refine lv_aload_n (pc := 885) hx hb dL_law_885 rfl (lv_at hl 5 rfl) ?_
  refine lv_iload (pc := 886) hx hb dL_law_886 (lv_at hl 1 rfl) ?_
  refine lv_iconst (pc := 888) (v := 3) hx hb dL_law_888 (by decide) ?_
  refine lv_iadd (pc := 889) hx hb dL_law_889 ?_
  refine va_sld (A := A) (pc := 890) hx hb hX hbl hbA hS hv3 dL_law_890 ?_
  refine W.eq (g2 := F0 m 891 ls [.int v3, .int v2, .int v1, .ref (ad 4 0)]) (by rw [e3]) ?_
  refine lv_aload_n (pc := 891) hx hb dL_law_891 rfl (lv_at hl 5 rfl) ?_
  refine lv_iload (pc := 892) hx hb dL_law_892 (lv_at hl 1 rfl) ?_
  refine lv_iconst (pc := 894) (v := 4) hx hb dL_law_894 (by decide) ?_
  refine lv_iadd (pc := 895) hx hb dL_law_895 ?_
  refine va_sld (A := A) (pc := 896) hx hb hX hbl hbA hS hv4 dL_law_896 ?_
  refine W.eq (g2 := F0 m 897 ls [.int v4, .int v3, .int v2, .int v1, .ref (ad 4 0)]) (by rw [e4]) ?_
  obtain ⟨q3, hq3, eq3⟩ := at_4 (ad := ad) (ca := ca) (σ := σ2) hmM
  obtain ⟨⟨y4, σ5⟩, hy4, hf⟩ := ob hf
  have hFc := w9_free hD hS hA
  refine va_calli (pc := 897) (va_runV (As := [.int v1, .int v2, .int v3, .int v4]) (rest := []) ⟨hx, hb, hml, hown, hts⟩ (t_M_reference l dC dI ad ca dom H.size n σ2 v1 v2 v3 v4 hmM hN hC y4 σ5 hy4) (cwV 4 hts (gV wd_885 wd_886 wd_887 wd_50 wd_884) rfl rfl rfl (by decide +kernel) ⟨Nat.le_of_ble_eq_true rfl, Nat.le_of_ble_eq_true rfl⟩) ⟨hW_blind, va_recv (q := (RM, TM, 11)) (q0 := q3) (ci := 4) hK.1 hP rfl eq3, hW_pre hP hK hD hG⟩ rfl rfl hl.1 rfl (lv_room (Nat.le_of_ble_eq_true rfl)) dL_law_897 ⟨show kc + 1 + 0 ≤ 601024 by omega, show ks + 6 + 0 ≤ 7293033 by omega⟩) hS (fun q _ h => hFc q h) hFc (fun r9 u t H1 locs ht hvm hr9 hB hz1 hk1 hS => ?_)
  obtain ⟨hP, hD, hC⟩ := hB
  rw [ht] at hP
  replace hD := hD.weaken (fun _ _ _ h => hFc _ h)
  generalize H1 = H at hP hS ⊢
  refine W.eq (g2 := F0 m 900 ls [.int y4]) (by rw [hr9]) ?_
  refine lv_istore (pc := 900) hx hb dL_law_900 hl (by decide) rfl (fun ls hl => ?_)
  have hl : lv_has ls 7 [(6, .int y4), (5, .int y1), (4, .int i), (3, .ref (ad 24 0)), (2, .ref (ad 4 0)), (1, .ref (ad 0 0)), (0, .ref b)] := hl
  refine lv_goto (pc := 902) (tgt := 1217) hx hb dL_law_902 rfl ?_
  obtain ⟨-, h9⟩ := Prod.mk.inj (Option.some.inj hf)
  subst h9
  have hl := lv_sub hl (l' := [(4, .int i), (3, .ref (ad 24 0)), (2, .ref (ad 4 0)), (1, .ref (ad 0 0)), (0, .ref b)]) [2, 3, 4, 5, 6] rfl
  refine W.widen (k := kc + 16) (n := ks + 101) (by omega) (by omega) ?_
  exact kk ad ca dom H _ ls rfl hN hC hP hD hK hS hl
