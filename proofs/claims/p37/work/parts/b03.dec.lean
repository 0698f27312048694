/-! THE LAW'S DECODE ROWS, 3 -/
theorem dL_isRefused_783 : decode cL_isRefused 783 = .ok (.iconst 0, 1) := by decide +kernel
theorem dL_isRefused_784 : decode cL_isRefused 784 = .ok (.invokestatic 149, 3) := by decide +kernel
theorem dL_isRefused_787 : decode cL_isRefused 787 = .ok (.ldc 110, 2) := by decide +kernel
theorem dL_isRefused_789 : decode cL_isRefused 789 = .ok (.if_icmp .ne 204, 3) := by decide +kernel
theorem dL_isRefused_792 : decode cL_isRefused 792 = .ok (.aload_n 0, 1) := by decide +kernel
theorem dL_isRefused_793 : decode cL_isRefused 793 = .ok (.bipush 13, 2) := by decide +kernel
theorem dL_isRefused_795 : decode cL_isRefused 795 = .ok (.iload 4, 2) := by decide +kernel
theorem dL_isRefused_797 : decode cL_isRefused 797 = .ok (.ifCond .eq 7, 3) := by decide +kernel
theorem dL_isRefused_800 : decode cL_isRefused 800 = .ok (.iconst (-1), 1) := by decide +kernel
theorem dL_isRefused_801 : decode cL_isRefused 801 = .ok (.goto 9, 3) := by decide +kernel
theorem dL_isRefused_804 : decode cL_isRefused 804 = .ok (.iconst 3, 1) := by decide +kernel
theorem dL_isRefused_805 : decode cL_isRefused 805 = .ok (.iload_n 3, 1) := by decide +kernel
theorem dL_isRefused_806 : decode cL_isRefused 806 = .ok (.bipush 30, 2) := by decide +kernel
theorem dL_isRefused_808 : decode cL_isRefused 808 = .ok (.irem, 1) := by decide +kernel
theorem dL_isRefused_809 : decode cL_isRefused 809 = .ok (.iadd, 1) := by decide +kernel
theorem dL_isRefused_810 : decode cL_isRefused 810 = .ok (.iconst 0, 1) := by decide +kernel
theorem dL_isRefused_811 : decode cL_isRefused 811 = .ok (.iconst 0, 1) := by decide +kernel
theorem dL_isRefused_812 : decode cL_isRefused 812 = .ok (.iconst 0, 1) := by decide +kernel
theorem dL_isRefused_813 : decode cL_isRefused 813 = .ok (.iconst 0, 1) := by decide +kernel
theorem dL_isRefused_814 : decode cL_isRefused 814 = .ok (.iconst 0, 1) := by decide +kernel
theorem dL_isRefused_815 : decode cL_isRefused 815 = .ok (.invokestatic 149, 3) := by decide +kernel
theorem dL_isRefused_818 : decode cL_isRefused 818 = .ok (.ldc 107, 2) := by decide +kernel
theorem dL_isRefused_820 : decode cL_isRefused 820 = .ok (.if_icmp .ne 173, 3) := by decide +kernel
theorem dL_isRefused_823 : decode cL_isRefused 823 = .ok (.aload_n 0, 1) := by decide +kernel
theorem dL_isRefused_824 : decode cL_isRefused 824 = .ok (.bipush 14, 2) := by decide +kernel
theorem dL_isRefused_826 : decode cL_isRefused 826 = .ok (.iload 4, 2) := by decide +kernel
theorem dL_isRefused_828 : decode cL_isRefused 828 = .ok (.ifCond .eq 12, 3) := by decide +kernel
theorem dL_isRefused_831 : decode cL_isRefused 831 = .ok (.iconst (-1), 1) := by decide +kernel
theorem dL_isRefused_832 : decode cL_isRefused 832 = .ok (.iload_n 3, 1) := by decide +kernel
theorem dL_isRefused_833 : decode cL_isRefused 833 = .ok (.bipush 30, 2) := by decide +kernel
theorem dL_isRefused_835 : decode cL_isRefused 835 = .ok (.irem, 1) := by decide +kernel
theorem dL_isRefused_836 : decode cL_isRefused 836 = .ok (.isub, 1) := by decide +kernel
theorem dL_isRefused_837 : decode cL_isRefused 837 = .ok (.goto 5, 3) := by decide +kernel
theorem dL_isRefused_840 : decode cL_isRefused 840 = .ok (.bipush 100, 2) := by decide +kernel
theorem dL_isRefused_842 : decode cL_isRefused 842 = .ok (.iconst 0, 1) := by decide +kernel
theorem dL_isRefused_843 : decode cL_isRefused 843 = .ok (.iconst 0, 1) := by decide +kernel
theorem dL_isRefused_844 : decode cL_isRefused 844 = .ok (.iconst 0, 1) := by decide +kernel
theorem dL_isRefused_845 : decode cL_isRefused 845 = .ok (.iconst 0, 1) := by decide +kernel
theorem dL_isRefused_846 : decode cL_isRefused 846 = .ok (.iconst 0, 1) := by decide +kernel
theorem dL_isRefused_847 : decode cL_isRefused 847 = .ok (.invokestatic 149, 3) := by decide +kernel
theorem dL_isRefused_850 : decode cL_isRefused 850 = .ok (.ldc 110, 2) := by decide +kernel
theorem dL_isRefused_852 : decode cL_isRefused 852 = .ok (.if_icmp .ne 141, 3) := by decide +kernel
theorem dL_isRefused_855 : decode cL_isRefused 855 = .ok (.aload_n 0, 1) := by decide +kernel
theorem dL_isRefused_856 : decode cL_isRefused 856 = .ok (.bipush 15, 2) := by decide +kernel
theorem dL_isRefused_858 : decode cL_isRefused 858 = .ok (.iload 4, 2) := by decide +kernel
theorem dL_isRefused_860 : decode cL_isRefused 860 = .ok (.ifCond .eq 7, 3) := by decide +kernel
theorem dL_isRefused_863 : decode cL_isRefused 863 = .ok (.iconst (-1), 1) := by decide +kernel
theorem dL_isRefused_864 : decode cL_isRefused 864 = .ok (.goto 10, 3) := by decide +kernel
theorem dL_isRefused_867 : decode cL_isRefused 867 = .ok (.bipush 100, 2) := by decide +kernel
theorem dL_isRefused_869 : decode cL_isRefused 869 = .ok (.iload_n 3, 1) := by decide +kernel
theorem dL_isRefused_870 : decode cL_isRefused 870 = .ok (.bipush 30, 2) := by decide +kernel
theorem dL_isRefused_872 : decode cL_isRefused 872 = .ok (.irem, 1) := by decide +kernel
theorem dL_isRefused_873 : decode cL_isRefused 873 = .ok (.iadd, 1) := by decide +kernel
theorem dL_isRefused_874 : decode cL_isRefused 874 = .ok (.iconst 0, 1) := by decide +kernel
theorem dL_isRefused_875 : decode cL_isRefused 875 = .ok (.iconst 0, 1) := by decide +kernel
theorem dL_isRefused_876 : decode cL_isRefused 876 = .ok (.iconst 0, 1) := by decide +kernel
theorem dL_isRefused_877 : decode cL_isRefused 877 = .ok (.iconst 0, 1) := by decide +kernel
theorem dL_isRefused_878 : decode cL_isRefused 878 = .ok (.iconst 0, 1) := by decide +kernel
theorem dL_isRefused_879 : decode cL_isRefused 879 = .ok (.invokestatic 149, 3) := by decide +kernel
theorem dL_isRefused_882 : decode cL_isRefused 882 = .ok (.ldc 110, 2) := by decide +kernel
theorem dL_isRefused_884 : decode cL_isRefused 884 = .ok (.if_icmp .ne 109, 3) := by decide +kernel
theorem dL_isRefused_887 : decode cL_isRefused 887 = .ok (.aload_n 0, 1) := by decide +kernel
theorem dL_isRefused_888 : decode cL_isRefused 888 = .ok (.bipush 16, 2) := by decide +kernel
theorem dL_isRefused_890 : decode cL_isRefused 890 = .ok (.iconst 5, 1) := by decide +kernel
theorem dL_isRefused_891 : decode cL_isRefused 891 = .ok (.sipush 10000, 3) := by decide +kernel
theorem dL_isRefused_894 : decode cL_isRefused 894 = .ok (.iconst 5, 1) := by decide +kernel
theorem dL_isRefused_895 : decode cL_isRefused 895 = .ok (.iconst 0, 1) := by decide +kernel
theorem dL_isRefused_896 : decode cL_isRefused 896 = .ok (.iconst 0, 1) := by decide +kernel
theorem dL_isRefused_897 : decode cL_isRefused 897 = .ok (.iconst 0, 1) := by decide +kernel
theorem dL_isRefused_898 : decode cL_isRefused 898 = .ok (.invokestatic 149, 3) := by decide +kernel
theorem dL_isRefused_901 : decode cL_isRefused 901 = .ok (.ldc 110, 2) := by decide +kernel
theorem dL_isRefused_903 : decode cL_isRefused 903 = .ok (.if_icmp .ne 90, 3) := by decide +kernel
theorem dL_isRefused_906 : decode cL_isRefused 906 = .ok (.aload_n 0, 1) := by decide +kernel
theorem dL_isRefused_907 : decode cL_isRefused 907 = .ok (.bipush 17, 2) := by decide +kernel
theorem dL_isRefused_909 : decode cL_isRefused 909 = .ok (.iload 4, 2) := by decide +kernel
theorem dL_isRefused_911 : decode cL_isRefused 911 = .ok (.ifCond .eq 12, 3) := by decide +kernel
theorem dL_isRefused_914 : decode cL_isRefused 914 = .ok (.iconst (-1), 1) := by decide +kernel
theorem dL_isRefused_915 : decode cL_isRefused 915 = .ok (.iload_n 3, 1) := by decide +kernel
theorem dL_isRefused_916 : decode cL_isRefused 916 = .ok (.bipush 30, 2) := by decide +kernel
theorem dL_isRefused_918 : decode cL_isRefused 918 = .ok (.irem, 1) := by decide +kernel
theorem dL_isRefused_919 : decode cL_isRefused 919 = .ok (.isub, 1) := by decide +kernel
theorem dL_isRefused_920 : decode cL_isRefused 920 = .ok (.goto 6, 3) := by decide +kernel
theorem dL_isRefused_923 : decode cL_isRefused 923 = .ok (.aload_n 1, 1) := by decide +kernel
theorem dL_isRefused_924 : decode cL_isRefused 924 = .ok (.iconst 1, 1) := by decide +kernel
theorem dL_isRefused_925 : decode cL_isRefused 925 = .ok (.iaload, 1) := by decide +kernel
theorem dL_isRefused_926 : decode cL_isRefused 926 = .ok (.iconst 0, 1) := by decide +kernel
theorem dL_isRefused_927 : decode cL_isRefused 927 = .ok (.iconst 0, 1) := by decide +kernel
theorem dL_isRefused_928 : decode cL_isRefused 928 = .ok (.iconst 0, 1) := by decide +kernel
theorem dL_isRefused_929 : decode cL_isRefused 929 = .ok (.iconst 0, 1) := by decide +kernel
theorem dL_isRefused_930 : decode cL_isRefused 930 = .ok (.iconst 0, 1) := by decide +kernel
theorem dL_isRefused_931 : decode cL_isRefused 931 = .ok (.invokestatic 149, 3) := by decide +kernel
theorem dL_isRefused_934 : decode cL_isRefused 934 = .ok (.ldc 107, 2) := by decide +kernel
theorem dL_isRefused_936 : decode cL_isRefused 936 = .ok (.if_icmp .ne 57, 3) := by decide +kernel
theorem dL_isRefused_939 : decode cL_isRefused 939 = .ok (.aload_n 0, 1) := by decide +kernel
theorem dL_isRefused_940 : decode cL_isRefused 940 = .ok (.bipush 18, 2) := by decide +kernel
theorem dL_isRefused_942 : decode cL_isRefused 942 = .ok (.iload 5, 2) := by decide +kernel
theorem dL_isRefused_944 : decode cL_isRefused 944 = .ok (.iconst (-1), 1) := by decide +kernel
theorem dL_isRefused_945 : decode cL_isRefused 945 = .ok (.iconst 0, 1) := by decide +kernel
theorem dL_isRefused_946 : decode cL_isRefused 946 = .ok (.iconst 0, 1) := by decide +kernel
theorem dL_isRefused_947 : decode cL_isRefused 947 = .ok (.iconst 0, 1) := by decide +kernel
theorem dL_isRefused_948 : decode cL_isRefused 948 = .ok (.iconst 0, 1) := by decide +kernel
theorem dL_isRefused_949 : decode cL_isRefused 949 = .ok (.invokestatic 149, 3) := by decide +kernel
theorem dL_isRefused_952 : decode cL_isRefused 952 = .ok (.ldc 107, 2) := by decide +kernel
theorem dL_isRefused_954 : decode cL_isRefused 954 = .ok (.if_icmp .ne 39, 3) := by decide +kernel
theorem dL_isRefused_957 : decode cL_isRefused 957 = .ok (.aload_n 0, 1) := by decide +kernel
theorem dL_isRefused_958 : decode cL_isRefused 958 = .ok (.bipush 18, 2) := by decide +kernel
theorem dL_isRefused_960 : decode cL_isRefused 960 = .ok (.iconst 0, 1) := by decide +kernel
theorem dL_isRefused_961 : decode cL_isRefused 961 = .ok (.iload 4, 2) := by decide +kernel
theorem dL_isRefused_963 : decode cL_isRefused 963 = .ok (.ifCond .eq 7, 3) := by decide +kernel
theorem dL_isRefused_966 : decode cL_isRefused 966 = .ok (.iconst (-1), 1) := by decide +kernel
theorem dL_isRefused_967 : decode cL_isRefused 967 = .ok (.goto 10, 3) := by decide +kernel
theorem dL_isRefused_970 : decode cL_isRefused 970 = .ok (.ldc 154, 2) := by decide +kernel
theorem dL_isRefused_972 : decode cL_isRefused 972 = .ok (.iload_n 3, 1) := by decide +kernel
theorem dL_isRefused_973 : decode cL_isRefused 973 = .ok (.bipush 30, 2) := by decide +kernel
theorem dL_isRefused_975 : decode cL_isRefused 975 = .ok (.irem, 1) := by decide +kernel
theorem dL_isRefused_976 : decode cL_isRefused 976 = .ok (.iadd, 1) := by decide +kernel
theorem dL_isRefused_977 : decode cL_isRefused 977 = .ok (.iconst 0, 1) := by decide +kernel
theorem dL_isRefused_978 : decode cL_isRefused 978 = .ok (.iconst 0, 1) := by decide +kernel
theorem dL_isRefused_979 : decode cL_isRefused 979 = .ok (.iconst 0, 1) := by decide +kernel
theorem dL_isRefused_980 : decode cL_isRefused 980 = .ok (.iconst 0, 1) := by decide +kernel
theorem dL_isRefused_981 : decode cL_isRefused 981 = .ok (.invokestatic 149, 3) := by decide +kernel
theorem dL_isRefused_984 : decode cL_isRefused 984 = .ok (.ldc 110, 2) := by decide +kernel
theorem dL_isRefused_986 : decode cL_isRefused 986 = .ok (.if_icmp .ne 7, 3) := by decide +kernel
theorem dL_isRefused_989 : decode cL_isRefused 989 = .ok (.iconst 1, 1) := by decide +kernel
theorem dL_isRefused_990 : decode cL_isRefused 990 = .ok (.goto 4, 3) := by decide +kernel
theorem dL_isRefused_993 : decode cL_isRefused 993 = .ok (.iconst 0, 1) := by decide +kernel
theorem dL_isRefused_994 : decode cL_isRefused 994 = .ok (.istore 9, 2) := by decide +kernel
theorem dL_isRefused_996 : decode cL_isRefused 996 = .ok (.iload 9, 2) := by decide +kernel
theorem dL_isRefused_998 : decode cL_isRefused 998 = .ok (.ifCond .eq 425, 3) := by decide +kernel
theorem dL_isRefused_1001 : decode cL_isRefused 1001 = .ok (.aload_n 0, 1) := by decide +kernel
theorem dL_isRefused_1002 : decode cL_isRefused 1002 = .ok (.bipush 19, 2) := by decide +kernel
theorem dL_isRefused_1004 : decode cL_isRefused 1004 = .ok (.iload 4, 2) := by decide +kernel
theorem dL_isRefused_1006 : decode cL_isRefused 1006 = .ok (.ifCond .eq 7, 3) := by decide +kernel
theorem dL_isRefused_1009 : decode cL_isRefused 1009 = .ok (.iconst (-1), 1) := by decide +kernel
theorem dL_isRefused_1010 : decode cL_isRefused 1010 = .ok (.goto 9, 3) := by decide +kernel
theorem dL_isRefused_1013 : decode cL_isRefused 1013 = .ok (.iconst 3, 1) := by decide +kernel
theorem dL_isRefused_1014 : decode cL_isRefused 1014 = .ok (.iload_n 3, 1) := by decide +kernel
theorem dL_isRefused_1015 : decode cL_isRefused 1015 = .ok (.bipush 30, 2) := by decide +kernel
theorem dL_isRefused_1017 : decode cL_isRefused 1017 = .ok (.irem, 1) := by decide +kernel
theorem dL_isRefused_1018 : decode cL_isRefused 1018 = .ok (.iadd, 1) := by decide +kernel
theorem dL_isRefused_1019 : decode cL_isRefused 1019 = .ok (.iconst 0, 1) := by decide +kernel
theorem dL_isRefused_1020 : decode cL_isRefused 1020 = .ok (.iconst 0, 1) := by decide +kernel
theorem dL_isRefused_1021 : decode cL_isRefused 1021 = .ok (.iconst 0, 1) := by decide +kernel
theorem dL_isRefused_1022 : decode cL_isRefused 1022 = .ok (.iconst 0, 1) := by decide +kernel
theorem dL_isRefused_1023 : decode cL_isRefused 1023 = .ok (.iconst 0, 1) := by decide +kernel
theorem dL_isRefused_1024 : decode cL_isRefused 1024 = .ok (.invokestatic 149, 3) := by decide +kernel
theorem dL_isRefused_1027 : decode cL_isRefused 1027 = .ok (.ldc 107, 2) := by decide +kernel
theorem dL_isRefused_1029 : decode cL_isRefused 1029 = .ok (.if_icmp .ne 394, 3) := by decide +kernel
theorem dL_isRefused_1032 : decode cL_isRefused 1032 = .ok (.aload_n 0, 1) := by decide +kernel
theorem dL_isRefused_1033 : decode cL_isRefused 1033 = .ok (.bipush 20, 2) := by decide +kernel
theorem dL_isRefused_1035 : decode cL_isRefused 1035 = .ok (.iload 4, 2) := by decide +kernel
theorem dL_isRefused_1037 : decode cL_isRefused 1037 = .ok (.ifCond .eq 12, 3) := by decide +kernel
theorem dL_isRefused_1040 : decode cL_isRefused 1040 = .ok (.iconst (-1), 1) := by decide +kernel
theorem dL_isRefused_1041 : decode cL_isRefused 1041 = .ok (.iload_n 3, 1) := by decide +kernel
theorem dL_isRefused_1042 : decode cL_isRefused 1042 = .ok (.bipush 30, 2) := by decide +kernel
theorem dL_isRefused_1044 : decode cL_isRefused 1044 = .ok (.irem, 1) := by decide +kernel
theorem dL_isRefused_1045 : decode cL_isRefused 1045 = .ok (.isub, 1) := by decide +kernel
theorem dL_isRefused_1046 : decode cL_isRefused 1046 = .ok (.goto 4, 3) := by decide +kernel
theorem dL_isRefused_1049 : decode cL_isRefused 1049 = .ok (.iconst 3, 1) := by decide +kernel
theorem dL_isRefused_1050 : decode cL_isRefused 1050 = .ok (.iconst 0, 1) := by decide +kernel
theorem dL_isRefused_1051 : decode cL_isRefused 1051 = .ok (.iconst 0, 1) := by decide +kernel
theorem dL_isRefused_1052 : decode cL_isRefused 1052 = .ok (.iconst 0, 1) := by decide +kernel
theorem dL_isRefused_1053 : decode cL_isRefused 1053 = .ok (.iconst 0, 1) := by decide +kernel
theorem dL_isRefused_1054 : decode cL_isRefused 1054 = .ok (.iconst 0, 1) := by decide +kernel
theorem dL_isRefused_1055 : decode cL_isRefused 1055 = .ok (.invokestatic 149, 3) := by decide +kernel
theorem dL_isRefused_1058 : decode cL_isRefused 1058 = .ok (.ldc 107, 2) := by decide +kernel
theorem dL_isRefused_1060 : decode cL_isRefused 1060 = .ok (.if_icmp .ne 363, 3) := by decide +kernel
theorem dL_isRefused_1063 : decode cL_isRefused 1063 = .ok (.aload_n 0, 1) := by decide +kernel
theorem dL_isRefused_1064 : decode cL_isRefused 1064 = .ok (.bipush 21, 2) := by decide +kernel
theorem dL_isRefused_1066 : decode cL_isRefused 1066 = .ok (.iload 4, 2) := by decide +kernel
theorem dL_isRefused_1068 : decode cL_isRefused 1068 = .ok (.ifCond .eq 7, 3) := by decide +kernel
theorem dL_isRefused_1071 : decode cL_isRefused 1071 = .ok (.iconst (-1), 1) := by decide +kernel
theorem dL_isRefused_1072 : decode cL_isRefused 1072 = .ok (.goto 12, 3) := by decide +kernel
theorem dL_isRefused_1075 : decode cL_isRefused 1075 = .ok (.aload_n 0, 1) := by decide +kernel
theorem dL_isRefused_1076 : decode cL_isRefused 1076 = .ok (.invokevirtual 133, 3) := by decide +kernel
theorem dL_isRefused_1079 : decode cL_isRefused 1079 = .ok (.iload_n 3, 1) := by decide +kernel
theorem dL_isRefused_1080 : decode cL_isRefused 1080 = .ok (.bipush 30, 2) := by decide +kernel
theorem dL_isRefused_1082 : decode cL_isRefused 1082 = .ok (.irem, 1) := by decide +kernel
theorem dL_isRefused_1083 : decode cL_isRefused 1083 = .ok (.iadd, 1) := by decide +kernel
theorem dL_isRefused_1084 : decode cL_isRefused 1084 = .ok (.bipush 9, 2) := by decide +kernel
theorem dL_isRefused_1086 : decode cL_isRefused 1086 = .ok (.iconst 0, 1) := by decide +kernel
theorem dL_isRefused_1087 : decode cL_isRefused 1087 = .ok (.iconst 0, 1) := by decide +kernel
theorem dL_isRefused_1088 : decode cL_isRefused 1088 = .ok (.iconst 0, 1) := by decide +kernel
theorem dL_isRefused_1089 : decode cL_isRefused 1089 = .ok (.iconst 0, 1) := by decide +kernel
theorem dL_isRefused_1090 : decode cL_isRefused 1090 = .ok (.invokestatic 149, 3) := by decide +kernel
theorem dL_isRefused_1093 : decode cL_isRefused 1093 = .ok (.ldc 107, 2) := by decide +kernel
theorem dL_isRefused_1095 : decode cL_isRefused 1095 = .ok (.if_icmp .ne 328, 3) := by decide +kernel
theorem dL_isRefused_1098 : decode cL_isRefused 1098 = .ok (.aload_n 0, 1) := by decide +kernel
theorem dL_isRefused_1099 : decode cL_isRefused 1099 = .ok (.bipush 21, 2) := by decide +kernel
theorem dL_isRefused_1101 : decode cL_isRefused 1101 = .ok (.iconst 0, 1) := by decide +kernel
theorem dL_isRefused_1102 : decode cL_isRefused 1102 = .ok (.iload 4, 2) := by decide +kernel
theorem dL_isRefused_1104 : decode cL_isRefused 1104 = .ok (.ifCond .eq 12, 3) := by decide +kernel
theorem dL_isRefused_1107 : decode cL_isRefused 1107 = .ok (.iconst (-1), 1) := by decide +kernel
theorem dL_isRefused_1108 : decode cL_isRefused 1108 = .ok (.iload_n 3, 1) := by decide +kernel
theorem dL_isRefused_1109 : decode cL_isRefused 1109 = .ok (.bipush 30, 2) := by decide +kernel
theorem dL_isRefused_1111 : decode cL_isRefused 1111 = .ok (.irem, 1) := by decide +kernel
theorem dL_isRefused_1112 : decode cL_isRefused 1112 = .ok (.isub, 1) := by decide +kernel
theorem dL_isRefused_1113 : decode cL_isRefused 1113 = .ok (.goto 4, 3) := by decide +kernel
theorem dL_isRefused_1116 : decode cL_isRefused 1116 = .ok (.iconst 5, 1) := by decide +kernel
theorem dL_isRefused_1117 : decode cL_isRefused 1117 = .ok (.iconst 0, 1) := by decide +kernel
theorem dL_isRefused_1118 : decode cL_isRefused 1118 = .ok (.iconst 0, 1) := by decide +kernel
theorem dL_isRefused_1119 : decode cL_isRefused 1119 = .ok (.iconst 0, 1) := by decide +kernel
theorem dL_isRefused_1120 : decode cL_isRefused 1120 = .ok (.iconst 0, 1) := by decide +kernel
theorem dL_isRefused_1121 : decode cL_isRefused 1121 = .ok (.invokestatic 149, 3) := by decide +kernel
theorem dL_isRefused_1124 : decode cL_isRefused 1124 = .ok (.ldc 110, 2) := by decide +kernel
theorem dL_isRefused_1126 : decode cL_isRefused 1126 = .ok (.if_icmp .ne 297, 3) := by decide +kernel
theorem dL_isRefused_1129 : decode cL_isRefused 1129 = .ok (.aload_n 0, 1) := by decide +kernel
theorem dL_isRefused_1130 : decode cL_isRefused 1130 = .ok (.bipush 23, 2) := by decide +kernel
theorem dL_isRefused_1132 : decode cL_isRefused 1132 = .ok (.iload 4, 2) := by decide +kernel
theorem dL_isRefused_1134 : decode cL_isRefused 1134 = .ok (.ifCond .eq 7, 3) := by decide +kernel
theorem dL_isRefused_1137 : decode cL_isRefused 1137 = .ok (.iconst (-1), 1) := by decide +kernel
theorem dL_isRefused_1138 : decode cL_isRefused 1138 = .ok (.goto 11, 3) := by decide +kernel
theorem dL_isRefused_1141 : decode cL_isRefused 1141 = .ok (.aload_n 1, 1) := by decide +kernel
theorem dL_isRefused_1142 : decode cL_isRefused 1142 = .ok (.iconst 2, 1) := by decide +kernel
theorem dL_isRefused_1143 : decode cL_isRefused 1143 = .ok (.iaload, 1) := by decide +kernel
theorem dL_isRefused_1144 : decode cL_isRefused 1144 = .ok (.iload_n 3, 1) := by decide +kernel
theorem dL_isRefused_1145 : decode cL_isRefused 1145 = .ok (.bipush 30, 2) := by decide +kernel
theorem dL_isRefused_1147 : decode cL_isRefused 1147 = .ok (.irem, 1) := by decide +kernel
theorem dL_isRefused_1148 : decode cL_isRefused 1148 = .ok (.iadd, 1) := by decide +kernel
theorem dL_isRefused_1149 : decode cL_isRefused 1149 = .ok (.iconst 0, 1) := by decide +kernel
theorem dL_isRefused_1150 : decode cL_isRefused 1150 = .ok (.iconst 0, 1) := by decide +kernel
theorem dL_isRefused_1151 : decode cL_isRefused 1151 = .ok (.iconst 0, 1) := by decide +kernel
theorem dL_isRefused_1152 : decode cL_isRefused 1152 = .ok (.iconst 0, 1) := by decide +kernel
theorem dL_isRefused_1153 : decode cL_isRefused 1153 = .ok (.iconst 0, 1) := by decide +kernel
theorem dL_isRefused_1154 : decode cL_isRefused 1154 = .ok (.invokestatic 149, 3) := by decide +kernel
theorem dL_isRefused_1157 : decode cL_isRefused 1157 = .ok (.ldc 107, 2) := by decide +kernel
theorem dL_isRefused_1159 : decode cL_isRefused 1159 = .ok (.if_icmp .ne 264, 3) := by decide +kernel
theorem dL_isRefused_1162 : decode cL_isRefused 1162 = .ok (.aload_n 0, 1) := by decide +kernel
theorem dL_isRefused_1163 : decode cL_isRefused 1163 = .ok (.bipush 24, 2) := by decide +kernel
theorem dL_isRefused_1165 : decode cL_isRefused 1165 = .ok (.iload 4, 2) := by decide +kernel
theorem dL_isRefused_1167 : decode cL_isRefused 1167 = .ok (.ifCond .eq 7, 3) := by decide +kernel
theorem dL_isRefused_1170 : decode cL_isRefused 1170 = .ok (.iconst (-1), 1) := by decide +kernel
theorem dL_isRefused_1171 : decode cL_isRefused 1171 = .ok (.goto 11, 3) := by decide +kernel
theorem dL_isRefused_1174 : decode cL_isRefused 1174 = .ok (.aload_n 1, 1) := by decide +kernel
theorem dL_isRefused_1175 : decode cL_isRefused 1175 = .ok (.iconst 3, 1) := by decide +kernel
theorem dL_isRefused_1176 : decode cL_isRefused 1176 = .ok (.iaload, 1) := by decide +kernel
theorem dL_isRefused_1177 : decode cL_isRefused 1177 = .ok (.iload_n 3, 1) := by decide +kernel
theorem dL_isRefused_1178 : decode cL_isRefused 1178 = .ok (.bipush 30, 2) := by decide +kernel
theorem dL_isRefused_1180 : decode cL_isRefused 1180 = .ok (.irem, 1) := by decide +kernel
theorem dL_isRefused_1181 : decode cL_isRefused 1181 = .ok (.iadd, 1) := by decide +kernel
