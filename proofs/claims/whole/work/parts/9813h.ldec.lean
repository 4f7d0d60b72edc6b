theorem dL_law_846 : decode code 846 = .ok (.iload 4, 2) := by decide +kernel
theorem dL_law_848 : decode code 848 = .ok (.iconst 2, 1) := by decide +kernel
theorem dL_law_849 : decode code 849 = .ok (.iadd, 1) := by decide +kernel
theorem dL_law_850 : decode code 850 = .ok (.iaload, 1) := by decide +kernel
theorem dL_law_851 : decode code 851 = .ok (.invokevirtual 119, 3) := by decide +kernel
theorem dL_law_854 : decode code 854 = .ok (.aload_n 2, 1) := by decide +kernel
theorem dL_law_855 : decode code 855 = .ok (.aload_n 0, 1) := by decide +kernel
theorem dL_law_856 : decode code 856 = .ok (.iload 4, 2) := by decide +kernel
theorem dL_law_858 : decode code 858 = .ok (.iconst 1, 1) := by decide +kernel
theorem dL_law_859 : decode code 859 = .ok (.iadd, 1) := by decide +kernel
theorem dL_law_860 : decode code 860 = .ok (.iaload, 1) := by decide +kernel
theorem dL_law_861 : decode code 861 = .ok (.aload_n 0, 1) := by decide +kernel
theorem dL_law_862 : decode code 862 = .ok (.iload 4, 2) := by decide +kernel
theorem dL_law_864 : decode code 864 = .ok (.iconst 2, 1) := by decide +kernel
theorem dL_law_865 : decode code 865 = .ok (.iadd, 1) := by decide +kernel
theorem dL_law_866 : decode code 866 = .ok (.iaload, 1) := by decide +kernel
theorem dL_law_867 : decode code 867 = .ok (.invokevirtual 122, 3) := by decide +kernel
theorem dL_law_870 : decode code 870 = .ok (.if_icmp .eq 573, 3) := by decide +kernel
theorem dL_law_875 : decode code 875 = .ok (.aload_n 1, 1) := by decide +kernel
theorem dL_law_876 : decode code 876 = .ok (.aload_n 0, 1) := by decide +kernel
theorem dL_law_877 : decode code 877 = .ok (.iload 4, 2) := by decide +kernel
theorem dL_law_879 : decode code 879 = .ok (.iconst 1, 1) := by decide +kernel
theorem dL_law_880 : decode code 880 = .ok (.iadd, 1) := by decide +kernel
theorem dL_law_881 : decode code 881 = .ok (.iaload, 1) := by decide +kernel
theorem dL_law_882 : decode code 882 = .ok (.aload_n 0, 1) := by decide +kernel
theorem dL_law_883 : decode code 883 = .ok (.iload 4, 2) := by decide +kernel
theorem dL_law_885 : decode code 885 = .ok (.iconst 2, 1) := by decide +kernel
theorem dL_law_886 : decode code 886 = .ok (.iadd, 1) := by decide +kernel
theorem dL_law_887 : decode code 887 = .ok (.iaload, 1) := by decide +kernel
theorem dL_law_888 : decode code 888 = .ok (.aload_n 0, 1) := by decide +kernel
theorem dL_law_889 : decode code 889 = .ok (.iload 4, 2) := by decide +kernel
theorem dL_law_891 : decode code 891 = .ok (.iconst 3, 1) := by decide +kernel
theorem dL_law_892 : decode code 892 = .ok (.iadd, 1) := by decide +kernel
theorem dL_law_893 : decode code 893 = .ok (.iaload, 1) := by decide +kernel
theorem dL_law_894 : decode code 894 = .ok (.aload_n 0, 1) := by decide +kernel
theorem dL_law_895 : decode code 895 = .ok (.iload 4, 2) := by decide +kernel
theorem dL_law_897 : decode code 897 = .ok (.iconst 4, 1) := by decide +kernel
theorem dL_law_898 : decode code 898 = .ok (.iadd, 1) := by decide +kernel
theorem dL_law_899 : decode code 899 = .ok (.iaload, 1) := by decide +kernel
theorem dL_law_900 : decode code 900 = .ok (.invokevirtual 123, 3) := by decide +kernel
theorem dL_law_903 : decode code 903 = .ok (.aload_n 2, 1) := by decide +kernel
theorem dL_law_904 : decode code 904 = .ok (.aload_n 0, 1) := by decide +kernel
theorem dL_law_905 : decode code 905 = .ok (.iload 4, 2) := by decide +kernel
theorem dL_law_907 : decode code 907 = .ok (.iconst 1, 1) := by decide +kernel
theorem dL_law_908 : decode code 908 = .ok (.iadd, 1) := by decide +kernel
theorem dL_law_909 : decode code 909 = .ok (.iaload, 1) := by decide +kernel
theorem dL_law_910 : decode code 910 = .ok (.aload_n 0, 1) := by decide +kernel
theorem dL_law_911 : decode code 911 = .ok (.iload 4, 2) := by decide +kernel
theorem dL_law_913 : decode code 913 = .ok (.iconst 2, 1) := by decide +kernel
theorem dL_law_914 : decode code 914 = .ok (.iadd, 1) := by decide +kernel
theorem dL_law_915 : decode code 915 = .ok (.iaload, 1) := by decide +kernel
theorem dL_law_916 : decode code 916 = .ok (.aload_n 0, 1) := by decide +kernel
theorem dL_law_917 : decode code 917 = .ok (.iload 4, 2) := by decide +kernel
theorem dL_law_919 : decode code 919 = .ok (.iconst 3, 1) := by decide +kernel
theorem dL_law_920 : decode code 920 = .ok (.iadd, 1) := by decide +kernel
theorem dL_law_921 : decode code 921 = .ok (.iaload, 1) := by decide +kernel
theorem dL_law_922 : decode code 922 = .ok (.aload_n 0, 1) := by decide +kernel
theorem dL_law_923 : decode code 923 = .ok (.iload 4, 2) := by decide +kernel
theorem dL_law_925 : decode code 925 = .ok (.iconst 4, 1) := by decide +kernel
theorem dL_law_926 : decode code 926 = .ok (.iadd, 1) := by decide +kernel
