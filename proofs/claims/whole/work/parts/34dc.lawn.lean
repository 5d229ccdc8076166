theorem dL_law_711 : decode cL_law 711 = .ok (.iadd, 1) := by decide +kernel
theorem dL_law_712 : decode cL_law 712 = .ok (.iaload, 1) := by decide +kernel
theorem dL_law_713 : decode cL_law 713 = .ok (.aload_n 3, 1) := by decide +kernel
theorem dL_law_714 : decode cL_law 714 = .ok (.invokestatic 119, 3) := by decide +kernel
set_option maxRecDepth 20000 in
theorem hl_L_119 : HL RL 119 mL_copy 8 := ⟨⟨(gtb_in (List.mem_of_getElem? (i := 1364) (by decide +kernel)) (by decide +kernel)), (gtb_in (List.mem_of_getElem? (i := 1362) (by decide +kernel)) (by decide +kernel)), (gtb_in (List.mem_of_getElem? (i := 1363) (by decide +kernel)) (by decide +kernel)), zw_L⟩, qd_L_copy, by decide⟩
theorem dL_law_717 : decode cL_law 717 = .ok (.istore 5, 2) := by decide +kernel
theorem dL_law_719 : decode cL_law 719 = .ok (.aload_n 2, 1) := by decide +kernel
theorem dL_law_720 : decode cL_law 720 = .ok (.aload_n 0, 1) := by decide +kernel
theorem dL_law_721 : decode cL_law 721 = .ok (.iload 4, 2) := by decide +kernel
theorem dL_law_723 : decode cL_law 723 = .ok (.iconst 1, 1) := by decide +kernel
theorem dL_law_724 : decode cL_law 724 = .ok (.iadd, 1) := by decide +kernel
theorem dL_law_725 : decode cL_law 725 = .ok (.iaload, 1) := by decide +kernel
theorem dL_law_726 : decode cL_law 726 = .ok (.aload_n 0, 1) := by decide +kernel
theorem dL_law_727 : decode cL_law 727 = .ok (.iload 4, 2) := by decide +kernel
theorem dL_law_729 : decode cL_law 729 = .ok (.iconst 2, 1) := by decide +kernel
theorem dL_law_730 : decode cL_law 730 = .ok (.iadd, 1) := by decide +kernel
theorem dL_law_731 : decode cL_law 731 = .ok (.iaload, 1) := by decide +kernel
theorem dL_law_732 : decode cL_law 732 = .ok (.aload_n 0, 1) := by decide +kernel
theorem dL_law_733 : decode cL_law 733 = .ok (.iload 4, 2) := by decide +kernel
theorem dL_law_735 : decode cL_law 735 = .ok (.iconst 3, 1) := by decide +kernel
theorem dL_law_736 : decode cL_law 736 = .ok (.iadd, 1) := by decide +kernel
theorem dL_law_737 : decode cL_law 737 = .ok (.iaload, 1) := by decide +kernel
theorem dL_law_738 : decode cL_law 738 = .ok (.aload_n 0, 1) := by decide +kernel
theorem dL_law_739 : decode cL_law 739 = .ok (.iload 4, 2) := by decide +kernel
theorem dL_law_741 : decode cL_law 741 = .ok (.iconst 4, 1) := by decide +kernel
theorem dL_law_742 : decode cL_law 742 = .ok (.iadd, 1) := by decide +kernel
theorem dL_law_743 : decode cL_law 743 = .ok (.iaload, 1) := by decide +kernel
theorem dL_law_744 : decode cL_law 744 = .ok (.aload_n 0, 1) := by decide +kernel
theorem dL_law_745 : decode cL_law 745 = .ok (.iload 4, 2) := by decide +kernel
theorem dL_law_747 : decode cL_law 747 = .ok (.iconst 5, 1) := by decide +kernel
theorem dL_law_748 : decode cL_law 748 = .ok (.iadd, 1) := by decide +kernel
theorem dL_law_749 : decode cL_law 749 = .ok (.iaload, 1) := by decide +kernel
theorem dL_law_750 : decode cL_law 750 = .ok (.aload_n 0, 1) := by decide +kernel
theorem dL_law_751 : decode cL_law 751 = .ok (.iload 4, 2) := by decide +kernel
theorem dL_law_753 : decode cL_law 753 = .ok (.bipush 6, 2) := by decide +kernel
theorem dL_law_755 : decode cL_law 755 = .ok (.iadd, 1) := by decide +kernel
theorem dL_law_756 : decode cL_law 756 = .ok (.iaload, 1) := by decide +kernel
theorem dL_law_757 : decode cL_law 757 = .ok (.invokevirtual 122, 3) := by decide +kernel
set_option maxRecDepth 20000 in
theorem vl_L_122 : VL RL 122 12 mX12_copy 6 := ⟨⟨qc_X12_copy, (gtb_in (List.mem_of_getElem? (i := 2571) (by decide +kernel)) (by decide +kernel)), qi_X12_copy, qs_X12_copy, zw_12⟩, ⟨_, _, rfl⟩, by decide, qd_X12_copy, by decide⟩
theorem dL_law_760 : decode cL_law 760 = .ok (.istore 6, 2) := by decide +kernel
theorem dL_law_762 : decode cL_law 762 = .ok (.aload_n 2, 1) := by decide +kernel
theorem dL_law_763 : decode cL_law 763 = .ok (.invokevirtual 98, 3) := by decide +kernel
theorem dL_law_766 : decode cL_law 766 = .ok (.iload 5, 2) := by decide +kernel
theorem dL_law_768 : decode cL_law 768 = .ok (.if_icmp .eq 5, 3) := by decide +kernel
theorem dL_law_771 : decode cL_law 771 = .ok (.iconst 0, 1) := by decide +kernel
theorem dL_law_772 : decode cL_law 772 = .ok (.ireturn, 1) := by decide +kernel
theorem dL_law_773 : decode cL_law 773 = .ok (.iload 5, 2) := by decide +kernel
theorem dL_law_775 : decode cL_law 775 = .ok (.ifCond .ne 15, 3) := by decide +kernel
theorem dL_law_778 : decode cL_law 778 = .ok (.aload_n 3, 1) := by decide +kernel
theorem dL_law_779 : decode cL_law 779 = .ok (.iconst 0, 1) := by decide +kernel
theorem dL_law_780 : decode cL_law 780 = .ok (.laload, 1) := by decide +kernel
theorem dL_law_781 : decode cL_law 781 = .ok (.iload 6, 2) := by decide +kernel
theorem dL_law_783 : decode cL_law 783 = .ok (.i2l, 1) := by decide +kernel
theorem dL_law_784 : decode cL_law 784 = .ok (.lcmp, 1) := by decide +kernel
theorem dL_law_785 : decode cL_law 785 = .ok (.ifCond .eq 5, 3) := by decide +kernel
theorem dL_law_788 : decode cL_law 788 = .ok (.iconst 0, 1) := by decide +kernel
theorem dL_law_789 : decode cL_law 789 = .ok (.ireturn, 1) := by decide +kernel
theorem dL_law_790 : decode cL_law 790 = .ok (.goto 1094, 3) := by decide +kernel
theorem dL_law_793 : decode cL_law 793 = .ok (.aload_n 1, 1) := by decide +kernel
theorem dL_law_794 : decode cL_law 794 = .ok (.aload_n 0, 1) := by decide +kernel
theorem dL_law_795 : decode cL_law 795 = .ok (.iload 4, 2) := by decide +kernel
theorem dL_law_797 : decode cL_law 797 = .ok (.iconst 1, 1) := by decide +kernel
theorem dL_law_798 : decode cL_law 798 = .ok (.iadd, 1) := by decide +kernel
theorem dL_law_799 : decode cL_law 799 = .ok (.iaload, 1) := by decide +kernel
theorem dL_law_800 : decode cL_law 800 = .ok (.aload_n 0, 1) := by decide +kernel
theorem dL_law_801 : decode cL_law 801 = .ok (.iload 4, 2) := by decide +kernel
theorem dL_law_803 : decode cL_law 803 = .ok (.iconst 2, 1) := by decide +kernel
theorem dL_law_804 : decode cL_law 804 = .ok (.iadd, 1) := by decide +kernel
theorem dL_law_805 : decode cL_law 805 = .ok (.iaload, 1) := by decide +kernel
theorem dL_law_806 : decode cL_law 806 = .ok (.aload_n 0, 1) := by decide +kernel
theorem dL_law_807 : decode cL_law 807 = .ok (.iload 4, 2) := by decide +kernel
theorem dL_law_809 : decode cL_law 809 = .ok (.iconst 3, 1) := by decide +kernel
theorem dL_law_810 : decode cL_law 810 = .ok (.iadd, 1) := by decide +kernel
theorem dL_law_811 : decode cL_law 811 = .ok (.iaload, 1) := by decide +kernel
theorem dL_law_812 : decode cL_law 812 = .ok (.aload_n 0, 1) := by decide +kernel
theorem dL_law_813 : decode cL_law 813 = .ok (.iload 4, 2) := by decide +kernel
theorem dL_law_815 : decode cL_law 815 = .ok (.iconst 4, 1) := by decide +kernel
theorem dL_law_816 : decode cL_law 816 = .ok (.iadd, 1) := by decide +kernel
theorem dL_law_817 : decode cL_law 817 = .ok (.iaload, 1) := by decide +kernel
theorem dL_law_818 : decode cL_law 818 = .ok (.ifCond .eq 7, 3) := by decide +kernel
theorem dL_law_821 : decode cL_law 821 = .ok (.iconst 1, 1) := by decide +kernel
theorem dL_law_822 : decode cL_law 822 = .ok (.goto 4, 3) := by decide +kernel
theorem dL_law_825 : decode cL_law 825 = .ok (.iconst 0, 1) := by decide +kernel
theorem dL_law_826 : decode cL_law 826 = .ok (.aload_n 3, 1) := by decide +kernel
theorem dL_law_827 : decode cL_law 827 = .ok (.invokestatic 123, 3) := by decide +kernel
set_option maxRecDepth 20000 in
theorem hl_L_123 : HL RL 123 mL_sort 6 := ⟨⟨(gtb_in (List.mem_of_getElem? (i := 1395) (by decide +kernel)) (by decide +kernel)), (gtb_in (List.mem_of_getElem? (i := 1393) (by decide +kernel)) (by decide +kernel)), (gtb_in (List.mem_of_getElem? (i := 1394) (by decide +kernel)) (by decide +kernel)), zw_L⟩, qd_L_sort, by decide⟩
theorem dL_law_830 : decode cL_law 830 = .ok (.istore 5, 2) := by decide +kernel
theorem dL_law_832 : decode cL_law 832 = .ok (.aload_n 2, 1) := by decide +kernel
theorem dL_law_833 : decode cL_law 833 = .ok (.aload_n 0, 1) := by decide +kernel
theorem dL_law_834 : decode cL_law 834 = .ok (.iload 4, 2) := by decide +kernel
theorem dL_law_836 : decode cL_law 836 = .ok (.iconst 1, 1) := by decide +kernel
theorem dL_law_837 : decode cL_law 837 = .ok (.iadd, 1) := by decide +kernel
theorem dL_law_838 : decode cL_law 838 = .ok (.iaload, 1) := by decide +kernel
theorem dL_law_839 : decode cL_law 839 = .ok (.aload_n 0, 1) := by decide +kernel
theorem dL_law_840 : decode cL_law 840 = .ok (.iload 4, 2) := by decide +kernel
theorem dL_law_842 : decode cL_law 842 = .ok (.iconst 2, 1) := by decide +kernel
theorem dL_law_843 : decode cL_law 843 = .ok (.iadd, 1) := by decide +kernel
theorem dL_law_844 : decode cL_law 844 = .ok (.iaload, 1) := by decide +kernel
theorem dL_law_845 : decode cL_law 845 = .ok (.aload_n 0, 1) := by decide +kernel
theorem dL_law_846 : decode cL_law 846 = .ok (.iload 4, 2) := by decide +kernel
theorem dL_law_848 : decode cL_law 848 = .ok (.iconst 3, 1) := by decide +kernel
theorem dL_law_849 : decode cL_law 849 = .ok (.iadd, 1) := by decide +kernel
theorem dL_law_850 : decode cL_law 850 = .ok (.iaload, 1) := by decide +kernel
theorem dL_law_851 : decode cL_law 851 = .ok (.aload_n 0, 1) := by decide +kernel
theorem dL_law_852 : decode cL_law 852 = .ok (.iload 4, 2) := by decide +kernel
theorem dL_law_854 : decode cL_law 854 = .ok (.iconst 4, 1) := by decide +kernel
theorem dL_law_855 : decode cL_law 855 = .ok (.iadd, 1) := by decide +kernel
theorem dL_law_856 : decode cL_law 856 = .ok (.iaload, 1) := by decide +kernel
theorem dL_law_857 : decode cL_law 857 = .ok (.ifCond .eq 7, 3) := by decide +kernel
theorem dL_law_860 : decode cL_law 860 = .ok (.iconst 1, 1) := by decide +kernel
theorem dL_law_861 : decode cL_law 861 = .ok (.goto 4, 3) := by decide +kernel
theorem dL_law_864 : decode cL_law 864 = .ok (.iconst 0, 1) := by decide +kernel
theorem dL_law_865 : decode cL_law 865 = .ok (.invokevirtual 126, 3) := by decide +kernel
set_option maxRecDepth 20000 in
theorem vl_L_126 : VL RL 126 12 mX12_sort 4 := ⟨⟨qc_X12_sort, (gtb_in (List.mem_of_getElem? (i := 2587) (by decide +kernel)) (by decide +kernel)), qi_X12_sort, qs_X12_sort, zw_12⟩, ⟨_, _, rfl⟩, by decide, qd_X12_sort, by decide⟩
theorem dL_law_868 : decode cL_law 868 = .ok (.istore 6, 2) := by decide +kernel
theorem dL_law_870 : decode cL_law 870 = .ok (.aload_n 2, 1) := by decide +kernel
theorem dL_law_871 : decode cL_law 871 = .ok (.invokevirtual 98, 3) := by decide +kernel
theorem dL_law_874 : decode cL_law 874 = .ok (.iload 5, 2) := by decide +kernel
theorem dL_law_876 : decode cL_law 876 = .ok (.if_icmp .eq 5, 3) := by decide +kernel
theorem dL_law_879 : decode cL_law 879 = .ok (.iconst 0, 1) := by decide +kernel
theorem dL_law_880 : decode cL_law 880 = .ok (.ireturn, 1) := by decide +kernel
theorem dL_law_881 : decode cL_law 881 = .ok (.iload 5, 2) := by decide +kernel
theorem dL_law_883 : decode cL_law 883 = .ok (.ifCond .ne 15, 3) := by decide +kernel
theorem dL_law_886 : decode cL_law 886 = .ok (.aload_n 3, 1) := by decide +kernel
theorem dL_law_887 : decode cL_law 887 = .ok (.iconst 0, 1) := by decide +kernel
theorem dL_law_888 : decode cL_law 888 = .ok (.laload, 1) := by decide +kernel
theorem dL_law_889 : decode cL_law 889 = .ok (.iload 6, 2) := by decide +kernel
theorem dL_law_891 : decode cL_law 891 = .ok (.i2l, 1) := by decide +kernel
theorem dL_law_892 : decode cL_law 892 = .ok (.lcmp, 1) := by decide +kernel
theorem dL_law_893 : decode cL_law 893 = .ok (.ifCond .eq 5, 3) := by decide +kernel
theorem dL_law_896 : decode cL_law 896 = .ok (.iconst 0, 1) := by decide +kernel
theorem dL_law_897 : decode cL_law 897 = .ok (.ireturn, 1) := by decide +kernel
theorem dL_law_898 : decode cL_law 898 = .ok (.goto 986, 3) := by decide +kernel
theorem dL_law_901 : decode cL_law 901 = .ok (.aload_n 1, 1) := by decide +kernel
theorem dL_law_902 : decode cL_law 902 = .ok (.aload_n 3, 1) := by decide +kernel
theorem dL_law_903 : decode cL_law 903 = .ok (.invokestatic 127, 3) := by decide +kernel
set_option maxRecDepth 20000 in
theorem hl_L_127 : HL RL 127 mL_undo 2 := ⟨⟨(gtb_in (List.mem_of_getElem? (i := 1417) (by decide +kernel)) (by decide +kernel)), (gtb_in (List.mem_of_getElem? (i := 1415) (by decide +kernel)) (by decide +kernel)), (gtb_in (List.mem_of_getElem? (i := 1416) (by decide +kernel)) (by decide +kernel)), zw_L⟩, qd_L_undo, by decide⟩
theorem dL_law_906 : decode cL_law 906 = .ok (.istore 5, 2) := by decide +kernel
theorem dL_law_908 : decode cL_law 908 = .ok (.aload_n 2, 1) := by decide +kernel
theorem dL_law_909 : decode cL_law 909 = .ok (.invokevirtual 130, 3) := by decide +kernel
set_option maxRecDepth 20000 in
theorem vl_L_130 : VL RL 130 12 mX12_undo 0 := ⟨⟨qc_X12_undo, (gtb_in (List.mem_of_getElem? (i := 1966) (by decide +kernel)) (by decide +kernel)), qi_X12_undo, qs_X12_undo, zw_12⟩, ⟨_, _, rfl⟩, by decide, qd_X12_undo, by decide⟩
theorem dL_law_912 : decode cL_law 912 = .ok (.istore 6, 2) := by decide +kernel
theorem dL_law_914 : decode cL_law 914 = .ok (.aload_n 2, 1) := by decide +kernel
theorem dL_law_915 : decode cL_law 915 = .ok (.invokevirtual 98, 3) := by decide +kernel
theorem dL_law_918 : decode cL_law 918 = .ok (.iload 5, 2) := by decide +kernel
theorem dL_law_920 : decode cL_law 920 = .ok (.if_icmp .eq 5, 3) := by decide +kernel
theorem dL_law_923 : decode cL_law 923 = .ok (.iconst 0, 1) := by decide +kernel
theorem dL_law_924 : decode cL_law 924 = .ok (.ireturn, 1) := by decide +kernel
theorem dL_law_925 : decode cL_law 925 = .ok (.iload 5, 2) := by decide +kernel
theorem dL_law_927 : decode cL_law 927 = .ok (.ifCond .ne 15, 3) := by decide +kernel
theorem dL_law_930 : decode cL_law 930 = .ok (.aload_n 3, 1) := by decide +kernel
theorem dL_law_931 : decode cL_law 931 = .ok (.iconst 0, 1) := by decide +kernel
theorem dL_law_932 : decode cL_law 932 = .ok (.laload, 1) := by decide +kernel
theorem dL_law_933 : decode cL_law 933 = .ok (.iload 6, 2) := by decide +kernel
theorem dL_law_935 : decode cL_law 935 = .ok (.i2l, 1) := by decide +kernel
theorem dL_law_936 : decode cL_law 936 = .ok (.lcmp, 1) := by decide +kernel
theorem dL_law_937 : decode cL_law 937 = .ok (.ifCond .eq 5, 3) := by decide +kernel
theorem dL_law_940 : decode cL_law 940 = .ok (.iconst 0, 1) := by decide +kernel
theorem dL_law_941 : decode cL_law 941 = .ok (.ireturn, 1) := by decide +kernel
theorem dL_law_942 : decode cL_law 942 = .ok (.goto 942, 3) := by decide +kernel
theorem dL_law_945 : decode cL_law 945 = .ok (.aload_n 1, 1) := by decide +kernel
theorem dL_law_946 : decode cL_law 946 = .ok (.aload_n 3, 1) := by decide +kernel
theorem dL_law_947 : decode cL_law 947 = .ok (.invokestatic 131, 3) := by decide +kernel
set_option maxRecDepth 20000 in
theorem hl_L_131 : HL RL 131 mL_redo 2 := ⟨⟨(gtb_in (List.mem_of_getElem? (i := 1444) (by decide +kernel)) (by decide +kernel)), (gtb_in (List.mem_of_getElem? (i := 1442) (by decide +kernel)) (by decide +kernel)), (gtb_in (List.mem_of_getElem? (i := 1443) (by decide +kernel)) (by decide +kernel)), zw_L⟩, qd_L_redo, by decide⟩
theorem dL_law_950 : decode cL_law 950 = .ok (.istore 5, 2) := by decide +kernel
theorem dL_law_952 : decode cL_law 952 = .ok (.aload_n 2, 1) := by decide +kernel
theorem dL_law_953 : decode cL_law 953 = .ok (.invokevirtual 133, 3) := by decide +kernel
set_option maxRecDepth 20000 in
theorem vl_L_133 : VL RL 133 12 mX12_redo 0 := ⟨⟨qc_X12_redo, (gtb_in (List.mem_of_getElem? (i := 1978) (by decide +kernel)) (by decide +kernel)), qi_X12_redo, qs_X12_redo, zw_12⟩, ⟨_, _, rfl⟩, by decide, qd_X12_redo, by decide⟩
theorem dL_law_956 : decode cL_law 956 = .ok (.istore 6, 2) := by decide +kernel
theorem dL_law_958 : decode cL_law 958 = .ok (.aload_n 2, 1) := by decide +kernel
theorem dL_law_959 : decode cL_law 959 = .ok (.invokevirtual 98, 3) := by decide +kernel
theorem dL_law_962 : decode cL_law 962 = .ok (.iload 5, 2) := by decide +kernel
theorem dL_law_964 : decode cL_law 964 = .ok (.if_icmp .eq 5, 3) := by decide +kernel
theorem dL_law_967 : decode cL_law 967 = .ok (.iconst 0, 1) := by decide +kernel
theorem dL_law_968 : decode cL_law 968 = .ok (.ireturn, 1) := by decide +kernel
theorem dL_law_969 : decode cL_law 969 = .ok (.iload 5, 2) := by decide +kernel
theorem dL_law_971 : decode cL_law 971 = .ok (.ifCond .ne 15, 3) := by decide +kernel
theorem dL_law_974 : decode cL_law 974 = .ok (.aload_n 3, 1) := by decide +kernel
theorem dL_law_975 : decode cL_law 975 = .ok (.iconst 0, 1) := by decide +kernel
theorem dL_law_976 : decode cL_law 976 = .ok (.laload, 1) := by decide +kernel
theorem dL_law_977 : decode cL_law 977 = .ok (.iload 6, 2) := by decide +kernel
theorem dL_law_979 : decode cL_law 979 = .ok (.i2l, 1) := by decide +kernel
theorem dL_law_980 : decode cL_law 980 = .ok (.lcmp, 1) := by decide +kernel
theorem dL_law_981 : decode cL_law 981 = .ok (.ifCond .eq 5, 3) := by decide +kernel
theorem dL_law_984 : decode cL_law 984 = .ok (.iconst 0, 1) := by decide +kernel
theorem dL_law_985 : decode cL_law 985 = .ok (.ireturn, 1) := by decide +kernel
theorem dL_law_986 : decode cL_law 986 = .ok (.goto 898, 3) := by decide +kernel
theorem dL_law_989 : decode cL_law 989 = .ok (.aload_n 1, 1) := by decide +kernel
theorem dL_law_990 : decode cL_law 990 = .ok (.aload_n 3, 1) := by decide +kernel
theorem dL_law_991 : decode cL_law 991 = .ok (.invokestatic 134, 3) := by decide +kernel
set_option maxRecDepth 20000 in
theorem hl_L_134 : HL RL 134 mL_commit 2 := ⟨⟨(gtb_in (List.mem_of_getElem? (i := 1455) (by decide +kernel)) (by decide +kernel)), (gtb_in (List.mem_of_getElem? (i := 1453) (by decide +kernel)) (by decide +kernel)), (gtb_in (List.mem_of_getElem? (i := 1454) (by decide +kernel)) (by decide +kernel)), zw_L⟩, qd_L_commit, by decide⟩
theorem dL_law_994 : decode cL_law 994 = .ok (.istore 5, 2) := by decide +kernel
theorem dL_law_996 : decode cL_law 996 = .ok (.aload_n 2, 1) := by decide +kernel
theorem dL_law_997 : decode cL_law 997 = .ok (.invokevirtual 136, 3) := by decide +kernel
set_option maxRecDepth 20000 in
theorem vl_L_136 : VL RL 136 12 mX12_commit 0 := ⟨⟨qc_X12_commit, (gtb_in (List.mem_of_getElem? (i := 2598) (by decide +kernel)) (by decide +kernel)), qi_X12_commit, qs_X12_commit, zw_12⟩, ⟨_, _, rfl⟩, by decide, qd_X12_commit, by decide⟩
theorem dL_law_1000 : decode cL_law 1000 = .ok (.istore 6, 2) := by decide +kernel
theorem dL_law_1002 : decode cL_law 1002 = .ok (.aload_n 2, 1) := by decide +kernel
theorem dL_law_1003 : decode cL_law 1003 = .ok (.invokevirtual 98, 3) := by decide +kernel
theorem dL_law_1006 : decode cL_law 1006 = .ok (.iload 5, 2) := by decide +kernel
theorem dL_law_1008 : decode cL_law 1008 = .ok (.if_icmp .eq 5, 3) := by decide +kernel
theorem dL_law_1011 : decode cL_law 1011 = .ok (.iconst 0, 1) := by decide +kernel
theorem dL_law_1012 : decode cL_law 1012 = .ok (.ireturn, 1) := by decide +kernel
theorem dL_law_1013 : decode cL_law 1013 = .ok (.iload 5, 2) := by decide +kernel
theorem dL_law_1015 : decode cL_law 1015 = .ok (.ifCond .ne 15, 3) := by decide +kernel
theorem dL_law_1018 : decode cL_law 1018 = .ok (.aload_n 3, 1) := by decide +kernel
theorem dL_law_1019 : decode cL_law 1019 = .ok (.iconst 0, 1) := by decide +kernel
theorem dL_law_1020 : decode cL_law 1020 = .ok (.laload, 1) := by decide +kernel
theorem dL_law_1021 : decode cL_law 1021 = .ok (.iload 6, 2) := by decide +kernel
theorem dL_law_1023 : decode cL_law 1023 = .ok (.i2l, 1) := by decide +kernel
theorem dL_law_1024 : decode cL_law 1024 = .ok (.lcmp, 1) := by decide +kernel
