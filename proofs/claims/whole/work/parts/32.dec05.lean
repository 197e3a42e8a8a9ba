theorem dX10_init_864 : decode cX10_init 864 = .ok (.iastore, 1) := by decide +kernel
theorem dX10_init_865 : decode cX10_init 865 = .ok (.dup, 1) := by decide +kernel
theorem dX10_init_866 : decode cX10_init 866 = .ok (.bipush 124, 2) := by decide +kernel
theorem dX10_init_868 : decode cX10_init 868 = .ok (.sipush 4098, 3) := by decide +kernel
theorem dX10_init_871 : decode cX10_init 871 = .ok (.iastore, 1) := by decide +kernel
theorem dX10_init_872 : decode cX10_init 872 = .ok (.dup, 1) := by decide +kernel
theorem dX10_init_873 : decode cX10_init 873 = .ok (.bipush 125, 2) := by decide +kernel
theorem dX10_init_875 : decode cX10_init 875 = .ok (.sipush 514, 3) := by decide +kernel
theorem dX10_init_878 : decode cX10_init 878 = .ok (.iastore, 1) := by decide +kernel
theorem dX10_init_879 : decode cX10_init 879 = .ok (.dup, 1) := by decide +kernel
theorem dX10_init_880 : decode cX10_init 880 = .ok (.bipush 126, 2) := by decide +kernel
theorem dX10_init_882 : decode cX10_init 882 = .ok (.sipush 1026, 3) := by decide +kernel
theorem dX10_init_885 : decode cX10_init 885 = .ok (.iastore, 1) := by decide +kernel
theorem dX10_init_886 : decode cX10_init 886 = .ok (.dup, 1) := by decide +kernel
theorem dX10_init_887 : decode cX10_init 887 = .ok (.bipush 127, 2) := by decide +kernel
theorem dX10_init_889 : decode cX10_init 889 = .ok (.sipush 2050, 3) := by decide +kernel
theorem dX10_init_892 : decode cX10_init 892 = .ok (.iastore, 1) := by decide +kernel
theorem dX10_init_893 : decode cX10_init 893 = .ok (.dup, 1) := by decide +kernel
theorem dX10_init_894 : decode cX10_init 894 = .ok (.sipush 128, 3) := by decide +kernel
theorem dX10_init_897 : decode cX10_init 897 = .ok (.sipush 4641, 3) := by decide +kernel
theorem dX10_init_900 : decode cX10_init 900 = .ok (.iastore, 1) := by decide +kernel
theorem dX10_init_901 : decode cX10_init 901 = .ok (.dup, 1) := by decide +kernel
theorem dX10_init_902 : decode cX10_init 902 = .ok (.sipush 129, 3) := by decide +kernel
theorem dX10_init_905 : decode cX10_init 905 = .ok (.sipush 8481, 3) := by decide +kernel
theorem dX10_init_908 : decode cX10_init 908 = .ok (.iastore, 1) := by decide +kernel
theorem dX10_init_909 : decode cX10_init 909 = .ok (.dup, 1) := by decide +kernel
theorem dX10_init_910 : decode cX10_init 910 = .ok (.sipush 130, 3) := by decide +kernel
theorem dX10_init_913 : decode cX10_init 913 = .ok (.sipush 9249, 3) := by decide +kernel
theorem dX10_init_916 : decode cX10_init 916 = .ok (.iastore, 1) := by decide +kernel
theorem dX10_init_917 : decode cX10_init 917 = .ok (.dup, 1) := by decide +kernel
theorem dX10_init_918 : decode cX10_init 918 = .ok (.sipush 131, 3) := by decide +kernel
theorem dX10_init_921 : decode cX10_init 921 = .ok (.sipush 8737, 3) := by decide +kernel
theorem dX10_init_924 : decode cX10_init 924 = .ok (.iastore, 1) := by decide +kernel
theorem dX10_init_925 : decode cX10_init 925 = .ok (.dup, 1) := by decide +kernel
theorem dX10_init_926 : decode cX10_init 926 = .ok (.sipush 132, 3) := by decide +kernel
theorem dX10_init_929 : decode cX10_init 929 = .ok (.sipush 4385, 3) := by decide +kernel
theorem dX10_init_932 : decode cX10_init 932 = .ok (.iastore, 1) := by decide +kernel
theorem dX10_init_933 : decode cX10_init 933 = .ok (.dup, 1) := by decide +kernel
theorem dX10_init_934 : decode cX10_init 934 = .ok (.sipush 133, 3) := by decide +kernel
theorem dX10_init_937 : decode cX10_init 937 = .ok (.bipush 33, 2) := by decide +kernel
theorem dX10_init_939 : decode cX10_init 939 = .ok (.iastore, 1) := by decide +kernel
theorem dX10_init_940 : decode cX10_init 940 = .ok (.dup, 1) := by decide +kernel
theorem dX10_init_941 : decode cX10_init 941 = .ok (.sipush 134, 3) := by decide +kernel
theorem dX10_init_944 : decode cX10_init 944 = .ok (.sipush 1057, 3) := by decide +kernel
theorem dX10_init_947 : decode cX10_init 947 = .ok (.iastore, 1) := by decide +kernel
theorem dX10_init_948 : decode cX10_init 948 = .ok (.dup, 1) := by decide +kernel
theorem dX10_init_949 : decode cX10_init 949 = .ok (.sipush 135, 3) := by decide +kernel
theorem dX10_init_952 : decode cX10_init 952 = .ok (.sipush 2337, 3) := by decide +kernel
theorem dX10_init_955 : decode cX10_init 955 = .ok (.iastore, 1) := by decide +kernel
theorem dX10_init_956 : decode cX10_init 956 = .ok (.dup, 1) := by decide +kernel
theorem dX10_init_957 : decode cX10_init 957 = .ok (.sipush 136, 3) := by decide +kernel
theorem dX10_init_960 : decode cX10_init 960 = .ok (.sipush 4673, 3) := by decide +kernel
theorem dX10_init_963 : decode cX10_init 963 = .ok (.iastore, 1) := by decide +kernel
theorem dX10_init_964 : decode cX10_init 964 = .ok (.dup, 1) := by decide +kernel
theorem dX10_init_965 : decode cX10_init 965 = .ok (.sipush 137, 3) := by decide +kernel
theorem dX10_init_968 : decode cX10_init 968 = .ok (.sipush 8257, 3) := by decide +kernel
theorem dX10_init_971 : decode cX10_init 971 = .ok (.iastore, 1) := by decide +kernel
theorem dX10_init_972 : decode cX10_init 972 = .ok (.dup, 1) := by decide +kernel
theorem dX10_init_973 : decode cX10_init 973 = .ok (.sipush 138, 3) := by decide +kernel
theorem dX10_init_976 : decode cX10_init 976 = .ok (.sipush 9281, 3) := by decide +kernel
theorem dX10_init_979 : decode cX10_init 979 = .ok (.iastore, 1) := by decide +kernel
theorem dX10_init_980 : decode cX10_init 980 = .ok (.dup, 1) := by decide +kernel
theorem dX10_init_981 : decode cX10_init 981 = .ok (.sipush 139, 3) := by decide +kernel
theorem dX10_init_984 : decode cX10_init 984 = .ok (.sipush 8769, 3) := by decide +kernel
theorem dX10_init_987 : decode cX10_init 987 = .ok (.iastore, 1) := by decide +kernel
theorem dX10_init_988 : decode cX10_init 988 = .ok (.dup, 1) := by decide +kernel
theorem dX10_init_989 : decode cX10_init 989 = .ok (.sipush 140, 3) := by decide +kernel
theorem dX10_init_992 : decode cX10_init 992 = .ok (.sipush 4161, 3) := by decide +kernel
theorem dX10_init_995 : decode cX10_init 995 = .ok (.iastore, 1) := by decide +kernel
theorem dX10_init_996 : decode cX10_init 996 = .ok (.dup, 1) := by decide +kernel
theorem dX10_init_997 : decode cX10_init 997 = .ok (.sipush 141, 3) := by decide +kernel
theorem dX10_init_1000 : decode cX10_init 1000 = .ok (.bipush 65, 2) := by decide +kernel
theorem dX10_init_1002 : decode cX10_init 1002 = .ok (.iastore, 1) := by decide +kernel
theorem dX10_init_1003 : decode cX10_init 1003 = .ok (.dup, 1) := by decide +kernel
theorem dX10_init_1004 : decode cX10_init 1004 = .ok (.sipush 142, 3) := by decide +kernel
theorem dX10_init_1007 : decode cX10_init 1007 = .ok (.sipush 1089, 3) := by decide +kernel
theorem dX10_init_1010 : decode cX10_init 1010 = .ok (.iastore, 1) := by decide +kernel
theorem dX10_init_1011 : decode cX10_init 1011 = .ok (.dup, 1) := by decide +kernel
theorem dX10_init_1012 : decode cX10_init 1012 = .ok (.sipush 143, 3) := by decide +kernel
theorem dX10_init_1015 : decode cX10_init 1015 = .ok (.sipush 2113, 3) := by decide +kernel
theorem dX10_init_1018 : decode cX10_init 1018 = .ok (.iastore, 1) := by decide +kernel
theorem dX10_init_1019 : decode cX10_init 1019 = .ok (.dup, 1) := by decide +kernel
theorem dX10_init_1020 : decode cX10_init 1020 = .ok (.sipush 144, 3) := by decide +kernel
theorem dX10_init_1023 : decode cX10_init 1023 = .ok (.sipush 8225, 3) := by decide +kernel
theorem dX10_init_1026 : decode cX10_init 1026 = .ok (.iastore, 1) := by decide +kernel
theorem dX10_init_1027 : decode cX10_init 1027 = .ok (.dup, 1) := by decide +kernel
theorem dX10_init_1028 : decode cX10_init 1028 = .ok (.sipush 145, 3) := by decide +kernel
theorem dX10_init_1031 : decode cX10_init 1031 = .ok (.sipush 8321, 3) := by decide +kernel
theorem dX10_init_1034 : decode cX10_init 1034 = .ok (.iastore, 1) := by decide +kernel
theorem dX10_init_1035 : decode cX10_init 1035 = .ok (.dup, 1) := by decide +kernel
theorem dX10_init_1036 : decode cX10_init 1036 = .ok (.sipush 146, 3) := by decide +kernel
theorem dX10_init_1039 : decode cX10_init 1039 = .ok (.sipush 9345, 3) := by decide +kernel
theorem dX10_init_1042 : decode cX10_init 1042 = .ok (.iastore, 1) := by decide +kernel
theorem dX10_init_1043 : decode cX10_init 1043 = .ok (.dup, 1) := by decide +kernel
theorem dX10_init_1044 : decode cX10_init 1044 = .ok (.sipush 147, 3) := by decide +kernel
theorem dX10_init_1047 : decode cX10_init 1047 = .ok (.sipush 2081, 3) := by decide +kernel
theorem dX10_init_1050 : decode cX10_init 1050 = .ok (.iastore, 1) := by decide +kernel
theorem dX10_init_1051 : decode cX10_init 1051 = .ok (.dup, 1) := by decide +kernel
theorem dX10_init_1052 : decode cX10_init 1052 = .ok (.sipush 148, 3) := by decide +kernel
theorem dX10_init_1055 : decode cX10_init 1055 = .ok (.sipush 4225, 3) := by decide +kernel
