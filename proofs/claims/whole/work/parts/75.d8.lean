/-! the law, read -/
theorem dL_788 : decode code 788 = .ok (.if_icmp .eq 176, 3) := by decide +kernel
theorem dL_791 : decode code 791 = .ok (.iconst 0, 1) := by decide +kernel
theorem dL_792 : decode code 792 = .ok (.ireturn, 1) := by decide +kernel
theorem dL_793 : decode code 793 = .ok (.aload_n 1, 1) := by decide +kernel
theorem dL_794 : decode code 794 = .ok (.aload_n 0, 1) := by decide +kernel
theorem dL_795 : decode code 795 = .ok (.iload_n 3, 1) := by decide +kernel
theorem dL_796 : decode code 796 = .ok (.iconst 1, 1) := by decide +kernel
theorem dL_797 : decode code 797 = .ok (.iadd, 1) := by decide +kernel
theorem dL_798 : decode code 798 = .ok (.iaload, 1) := by decide +kernel
theorem dL_799 : decode code 799 = .ok (.invokevirtual 106, 3) := by decide +kernel
theorem dL_802 : decode code 802 = .ok (.aload_n 2, 1) := by decide +kernel
theorem dL_803 : decode code 803 = .ok (.aload_n 0, 1) := by decide +kernel
theorem dL_804 : decode code 804 = .ok (.iload_n 3, 1) := by decide +kernel
theorem dL_805 : decode code 805 = .ok (.iconst 1, 1) := by decide +kernel
theorem dL_806 : decode code 806 = .ok (.iadd, 1) := by decide +kernel
theorem dL_807 : decode code 807 = .ok (.iaload, 1) := by decide +kernel
theorem dL_808 : decode code 808 = .ok (.invokevirtual 109, 3) := by decide +kernel
theorem dL_811 : decode code 811 = .ok (.if_icmp .eq 153, 3) := by decide +kernel
theorem dL_814 : decode code 814 = .ok (.iconst 0, 1) := by decide +kernel
theorem dL_815 : decode code 815 = .ok (.ireturn, 1) := by decide +kernel
theorem dL_816 : decode code 816 = .ok (.aload_n 1, 1) := by decide +kernel
theorem dL_817 : decode code 817 = .ok (.aload_n 0, 1) := by decide +kernel
theorem dL_818 : decode code 818 = .ok (.iload_n 3, 1) := by decide +kernel
theorem dL_819 : decode code 819 = .ok (.iconst 1, 1) := by decide +kernel
theorem dL_820 : decode code 820 = .ok (.iadd, 1) := by decide +kernel
theorem dL_821 : decode code 821 = .ok (.iaload, 1) := by decide +kernel
theorem dL_822 : decode code 822 = .ok (.invokevirtual 110, 3) := by decide +kernel
theorem dL_825 : decode code 825 = .ok (.aload_n 2, 1) := by decide +kernel
theorem dL_826 : decode code 826 = .ok (.aload_n 0, 1) := by decide +kernel
theorem dL_827 : decode code 827 = .ok (.iload_n 3, 1) := by decide +kernel
theorem dL_828 : decode code 828 = .ok (.iconst 1, 1) := by decide +kernel
theorem dL_829 : decode code 829 = .ok (.iadd, 1) := by decide +kernel
theorem dL_830 : decode code 830 = .ok (.iaload, 1) := by decide +kernel
theorem dL_831 : decode code 831 = .ok (.invokevirtual 113, 3) := by decide +kernel
theorem dL_834 : decode code 834 = .ok (.if_icmp .eq 130, 3) := by decide +kernel
theorem dL_837 : decode code 837 = .ok (.iconst 0, 1) := by decide +kernel
theorem dL_838 : decode code 838 = .ok (.ireturn, 1) := by decide +kernel
theorem dL_839 : decode code 839 = .ok (.aload_n 1, 1) := by decide +kernel
theorem dL_840 : decode code 840 = .ok (.aload_n 0, 1) := by decide +kernel
theorem dL_841 : decode code 841 = .ok (.iload_n 3, 1) := by decide +kernel
theorem dL_842 : decode code 842 = .ok (.iconst 1, 1) := by decide +kernel
theorem dL_843 : decode code 843 = .ok (.iadd, 1) := by decide +kernel
theorem dL_844 : decode code 844 = .ok (.iaload, 1) := by decide +kernel
theorem dL_845 : decode code 845 = .ok (.aload_n 0, 1) := by decide +kernel
theorem dL_846 : decode code 846 = .ok (.iload_n 3, 1) := by decide +kernel
theorem dL_847 : decode code 847 = .ok (.iconst 2, 1) := by decide +kernel
theorem dL_848 : decode code 848 = .ok (.iadd, 1) := by decide +kernel
theorem dL_849 : decode code 849 = .ok (.iaload, 1) := by decide +kernel
theorem dL_850 : decode code 850 = .ok (.invokevirtual 114, 3) := by decide +kernel
theorem dL_853 : decode code 853 = .ok (.aload_n 2, 1) := by decide +kernel
theorem dL_854 : decode code 854 = .ok (.aload_n 0, 1) := by decide +kernel
theorem dL_855 : decode code 855 = .ok (.iload_n 3, 1) := by decide +kernel
theorem dL_856 : decode code 856 = .ok (.iconst 1, 1) := by decide +kernel
theorem dL_857 : decode code 857 = .ok (.iadd, 1) := by decide +kernel
theorem dL_858 : decode code 858 = .ok (.iaload, 1) := by decide +kernel
theorem dL_859 : decode code 859 = .ok (.aload_n 0, 1) := by decide +kernel
theorem dL_860 : decode code 860 = .ok (.iload_n 3, 1) := by decide +kernel
theorem dL_861 : decode code 861 = .ok (.iconst 2, 1) := by decide +kernel
theorem dL_862 : decode code 862 = .ok (.iadd, 1) := by decide +kernel
theorem dL_863 : decode code 863 = .ok (.iaload, 1) := by decide +kernel
theorem dL_864 : decode code 864 = .ok (.invokevirtual 117, 3) := by decide +kernel
theorem dL_867 : decode code 867 = .ok (.if_icmp .eq 97, 3) := by decide +kernel
theorem dL_870 : decode code 870 = .ok (.iconst 0, 1) := by decide +kernel
theorem dL_871 : decode code 871 = .ok (.ireturn, 1) := by decide +kernel
theorem dL_872 : decode code 872 = .ok (.aload_n 1, 1) := by decide +kernel
