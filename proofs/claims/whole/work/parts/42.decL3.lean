theorem d_L_law_828 : decode code 828 = .ok (.iadd, 1) := by decide +kernel
theorem d_L_law_829 : decode code 829 = .ok (.iaload, 1) := by decide +kernel
theorem d_L_law_830 : decode code 830 = .ok (.aload_n 0, 1) := by decide +kernel
theorem d_L_law_831 : decode code 831 = .ok (.iload_n 3, 1) := by decide +kernel
theorem d_L_law_832 : decode code 832 = .ok (.iconst 3, 1) := by decide +kernel
theorem d_L_law_833 : decode code 833 = .ok (.iadd, 1) := by decide +kernel
theorem d_L_law_834 : decode code 834 = .ok (.iaload, 1) := by decide +kernel
theorem d_L_law_835 : decode code 835 = .ok (.ifCond .eq 7, 3) := by decide +kernel
theorem d_L_law_838 : decode code 838 = .ok (.iconst 1, 1) := by decide +kernel
theorem d_L_law_839 : decode code 839 = .ok (.goto 4, 3) := by decide +kernel
theorem d_L_law_842 : decode code 842 = .ok (.iconst 0, 1) := by decide +kernel
theorem d_L_law_843 : decode code 843 = .ok (.aload_n 0, 1) := by decide +kernel
theorem d_L_law_844 : decode code 844 = .ok (.iload_n 3, 1) := by decide +kernel
theorem d_L_law_845 : decode code 845 = .ok (.iconst 4, 1) := by decide +kernel
theorem d_L_law_846 : decode code 846 = .ok (.iadd, 1) := by decide +kernel
theorem d_L_law_847 : decode code 847 = .ok (.iaload, 1) := by decide +kernel
theorem d_L_law_848 : decode code 848 = .ok (.ifCond .eq 7, 3) := by decide +kernel
theorem d_L_law_851 : decode code 851 = .ok (.iconst 1, 1) := by decide +kernel
theorem d_L_law_852 : decode code 852 = .ok (.goto 4, 3) := by decide +kernel
theorem d_L_law_855 : decode code 855 = .ok (.iconst 0, 1) := by decide +kernel
theorem d_L_law_856 : decode code 856 = .ok (.invokevirtual 68, 3) := by decide +kernel
theorem d_L_law_859 : decode code 859 = .ok (.if_icmp .eq 192, 3) := by decide +kernel
theorem d_L_law_862 : decode code 862 = .ok (.iconst 0, 1) := by decide +kernel
theorem d_L_law_863 : decode code 863 = .ok (.ireturn, 1) := by decide +kernel
theorem d_L_law_864 : decode code 864 = .ok (.aload_n 1, 1) := by decide +kernel
theorem d_L_law_865 : decode code 865 = .ok (.aload_n 0, 1) := by decide +kernel
theorem d_L_law_866 : decode code 866 = .ok (.iload_n 3, 1) := by decide +kernel
theorem d_L_law_867 : decode code 867 = .ok (.iconst 1, 1) := by decide +kernel
theorem d_L_law_868 : decode code 868 = .ok (.iadd, 1) := by decide +kernel
theorem d_L_law_869 : decode code 869 = .ok (.iaload, 1) := by decide +kernel
theorem d_L_law_870 : decode code 870 = .ok (.aload_n 0, 1) := by decide +kernel
theorem d_L_law_871 : decode code 871 = .ok (.iload_n 3, 1) := by decide +kernel
theorem d_L_law_872 : decode code 872 = .ok (.iconst 2, 1) := by decide +kernel
theorem d_L_law_873 : decode code 873 = .ok (.iadd, 1) := by decide +kernel
theorem d_L_law_874 : decode code 874 = .ok (.iaload, 1) := by decide +kernel
theorem d_L_law_875 : decode code 875 = .ok (.invokevirtual 69, 3) := by decide +kernel
theorem d_L_law_878 : decode code 878 = .ok (.aload_n 2, 1) := by decide +kernel
theorem d_L_law_879 : decode code 879 = .ok (.aload_n 0, 1) := by decide +kernel
theorem d_L_law_880 : decode code 880 = .ok (.iload_n 3, 1) := by decide +kernel
theorem d_L_law_881 : decode code 881 = .ok (.iconst 1, 1) := by decide +kernel
theorem d_L_law_882 : decode code 882 = .ok (.iadd, 1) := by decide +kernel
theorem d_L_law_883 : decode code 883 = .ok (.iaload, 1) := by decide +kernel
theorem d_L_law_884 : decode code 884 = .ok (.aload_n 0, 1) := by decide +kernel
theorem d_L_law_885 : decode code 885 = .ok (.iload_n 3, 1) := by decide +kernel
theorem d_L_law_886 : decode code 886 = .ok (.iconst 2, 1) := by decide +kernel
theorem d_L_law_887 : decode code 887 = .ok (.iadd, 1) := by decide +kernel
theorem d_L_law_888 : decode code 888 = .ok (.iaload, 1) := by decide +kernel
theorem d_L_law_889 : decode code 889 = .ok (.invokevirtual 73, 3) := by decide +kernel
theorem d_L_law_892 : decode code 892 = .ok (.if_icmp .eq 159, 3) := by decide +kernel
theorem d_L_law_895 : decode code 895 = .ok (.iconst 0, 1) := by decide +kernel
theorem d_L_law_896 : decode code 896 = .ok (.ireturn, 1) := by decide +kernel
theorem d_L_law_897 : decode code 897 = .ok (.aload_n 1, 1) := by decide +kernel
theorem d_L_law_898 : decode code 898 = .ok (.aload_n 0, 1) := by decide +kernel
theorem d_L_law_899 : decode code 899 = .ok (.iload_n 3, 1) := by decide +kernel
theorem d_L_law_900 : decode code 900 = .ok (.iconst 1, 1) := by decide +kernel
theorem d_L_law_901 : decode code 901 = .ok (.iadd, 1) := by decide +kernel
theorem d_L_law_902 : decode code 902 = .ok (.iaload, 1) := by decide +kernel
theorem d_L_law_903 : decode code 903 = .ok (.aload_n 0, 1) := by decide +kernel
theorem d_L_law_904 : decode code 904 = .ok (.iload_n 3, 1) := by decide +kernel
theorem d_L_law_905 : decode code 905 = .ok (.iconst 2, 1) := by decide +kernel
theorem d_L_law_906 : decode code 906 = .ok (.iadd, 1) := by decide +kernel
theorem d_L_law_907 : decode code 907 = .ok (.iaload, 1) := by decide +kernel
theorem d_L_law_908 : decode code 908 = .ok (.invokevirtual 74, 3) := by decide +kernel
theorem d_L_law_911 : decode code 911 = .ok (.aload_n 2, 1) := by decide +kernel
theorem d_L_law_912 : decode code 912 = .ok (.aload_n 0, 1) := by decide +kernel
theorem d_L_law_913 : decode code 913 = .ok (.iload_n 3, 1) := by decide +kernel
theorem d_L_law_914 : decode code 914 = .ok (.iconst 1, 1) := by decide +kernel
theorem d_L_law_915 : decode code 915 = .ok (.iadd, 1) := by decide +kernel
theorem d_L_law_916 : decode code 916 = .ok (.iaload, 1) := by decide +kernel
theorem d_L_law_917 : decode code 917 = .ok (.aload_n 0, 1) := by decide +kernel
theorem d_L_law_918 : decode code 918 = .ok (.iload_n 3, 1) := by decide +kernel
theorem d_L_law_919 : decode code 919 = .ok (.iconst 2, 1) := by decide +kernel
theorem d_L_law_920 : decode code 920 = .ok (.iadd, 1) := by decide +kernel
theorem d_L_law_921 : decode code 921 = .ok (.iaload, 1) := by decide +kernel
theorem d_L_law_922 : decode code 922 = .ok (.invokevirtual 77, 3) := by decide +kernel
theorem d_L_law_925 : decode code 925 = .ok (.if_icmp .eq 126, 3) := by decide +kernel
theorem d_L_law_928 : decode code 928 = .ok (.iconst 0, 1) := by decide +kernel
theorem d_L_law_929 : decode code 929 = .ok (.ireturn, 1) := by decide +kernel
theorem d_L_law_930 : decode code 930 = .ok (.aload_n 1, 1) := by decide +kernel
theorem d_L_law_931 : decode code 931 = .ok (.aload_n 0, 1) := by decide +kernel
theorem d_L_law_932 : decode code 932 = .ok (.iload_n 3, 1) := by decide +kernel
theorem d_L_law_933 : decode code 933 = .ok (.iconst 1, 1) := by decide +kernel
theorem d_L_law_934 : decode code 934 = .ok (.iadd, 1) := by decide +kernel
theorem d_L_law_935 : decode code 935 = .ok (.iaload, 1) := by decide +kernel
theorem d_L_law_936 : decode code 936 = .ok (.invokevirtual 78, 3) := by decide +kernel
theorem d_L_law_939 : decode code 939 = .ok (.aload_n 2, 1) := by decide +kernel
theorem d_L_law_940 : decode code 940 = .ok (.aload_n 0, 1) := by decide +kernel
theorem d_L_law_941 : decode code 941 = .ok (.iload_n 3, 1) := by decide +kernel
theorem d_L_law_942 : decode code 942 = .ok (.iconst 1, 1) := by decide +kernel
theorem d_L_law_943 : decode code 943 = .ok (.iadd, 1) := by decide +kernel
theorem d_L_law_944 : decode code 944 = .ok (.iaload, 1) := by decide +kernel
theorem d_L_law_945 : decode code 945 = .ok (.invokevirtual 82, 3) := by decide +kernel
theorem d_L_law_948 : decode code 948 = .ok (.lcmp, 1) := by decide +kernel
theorem d_L_law_949 : decode code 949 = .ok (.ifCond .eq 102, 3) := by decide +kernel
theorem d_L_law_952 : decode code 952 = .ok (.iconst 0, 1) := by decide +kernel
theorem d_L_law_953 : decode code 953 = .ok (.ireturn, 1) := by decide +kernel
theorem d_L_law_954 : decode code 954 = .ok (.aload_n 1, 1) := by decide +kernel
theorem d_L_law_955 : decode code 955 = .ok (.aload_n 0, 1) := by decide +kernel
theorem d_L_law_956 : decode code 956 = .ok (.iload_n 3, 1) := by decide +kernel
theorem d_L_law_957 : decode code 957 = .ok (.iconst 1, 1) := by decide +kernel
theorem d_L_law_958 : decode code 958 = .ok (.iadd, 1) := by decide +kernel
theorem d_L_law_959 : decode code 959 = .ok (.iaload, 1) := by decide +kernel
theorem d_L_law_960 : decode code 960 = .ok (.invokevirtual 83, 3) := by decide +kernel
theorem d_L_law_963 : decode code 963 = .ok (.aload_n 2, 1) := by decide +kernel
theorem d_L_law_964 : decode code 964 = .ok (.aload_n 0, 1) := by decide +kernel
theorem d_L_law_965 : decode code 965 = .ok (.iload_n 3, 1) := by decide +kernel
theorem d_L_law_966 : decode code 966 = .ok (.iconst 1, 1) := by decide +kernel
theorem d_L_law_967 : decode code 967 = .ok (.iadd, 1) := by decide +kernel
theorem d_L_law_968 : decode code 968 = .ok (.iaload, 1) := by decide +kernel
theorem d_L_law_969 : decode code 969 = .ok (.invokevirtual 86, 3) := by decide +kernel
theorem d_L_law_972 : decode code 972 = .ok (.lcmp, 1) := by decide +kernel
theorem d_L_law_973 : decode code 973 = .ok (.ifCond .eq 78, 3) := by decide +kernel
theorem d_L_law_976 : decode code 976 = .ok (.iconst 0, 1) := by decide +kernel
theorem d_L_law_977 : decode code 977 = .ok (.ireturn, 1) := by decide +kernel
theorem d_L_law_978 : decode code 978 = .ok (.aload_n 1, 1) := by decide +kernel
theorem d_L_law_979 : decode code 979 = .ok (.aload_n 0, 1) := by decide +kernel
theorem d_L_law_980 : decode code 980 = .ok (.iload_n 3, 1) := by decide +kernel
theorem d_L_law_981 : decode code 981 = .ok (.iconst 1, 1) := by decide +kernel
theorem d_L_law_982 : decode code 982 = .ok (.iadd, 1) := by decide +kernel
theorem d_L_law_983 : decode code 983 = .ok (.iaload, 1) := by decide +kernel
theorem d_L_law_984 : decode code 984 = .ok (.aload_n 0, 1) := by decide +kernel
theorem d_L_law_985 : decode code 985 = .ok (.iload_n 3, 1) := by decide +kernel
theorem d_L_law_986 : decode code 986 = .ok (.iconst 2, 1) := by decide +kernel
theorem d_L_law_987 : decode code 987 = .ok (.iadd, 1) := by decide +kernel
theorem d_L_law_988 : decode code 988 = .ok (.iaload, 1) := by decide +kernel
theorem d_L_law_989 : decode code 989 = .ok (.ifCond .eq 7, 3) := by decide +kernel
theorem d_L_law_992 : decode code 992 = .ok (.iconst 1, 1) := by decide +kernel
theorem d_L_law_993 : decode code 993 = .ok (.goto 4, 3) := by decide +kernel
theorem d_L_law_996 : decode code 996 = .ok (.iconst 0, 1) := by decide +kernel
theorem d_L_law_997 : decode code 997 = .ok (.invokevirtual 87, 3) := by decide +kernel
theorem d_L_law_1000 : decode code 1000 = .ok (.aload_n 2, 1) := by decide +kernel
theorem d_L_law_1001 : decode code 1001 = .ok (.aload_n 0, 1) := by decide +kernel
theorem d_L_law_1002 : decode code 1002 = .ok (.iload_n 3, 1) := by decide +kernel
theorem d_L_law_1003 : decode code 1003 = .ok (.iconst 1, 1) := by decide +kernel
theorem d_L_law_1004 : decode code 1004 = .ok (.iadd, 1) := by decide +kernel
theorem d_L_law_1005 : decode code 1005 = .ok (.iaload, 1) := by decide +kernel
theorem d_L_law_1006 : decode code 1006 = .ok (.aload_n 0, 1) := by decide +kernel
theorem d_L_law_1007 : decode code 1007 = .ok (.iload_n 3, 1) := by decide +kernel
theorem d_L_law_1008 : decode code 1008 = .ok (.iconst 2, 1) := by decide +kernel
theorem d_L_law_1009 : decode code 1009 = .ok (.iadd, 1) := by decide +kernel
theorem d_L_law_1010 : decode code 1010 = .ok (.iaload, 1) := by decide +kernel
theorem d_L_law_1011 : decode code 1011 = .ok (.ifCond .eq 7, 3) := by decide +kernel
theorem d_L_law_1014 : decode code 1014 = .ok (.iconst 1, 1) := by decide +kernel
theorem d_L_law_1015 : decode code 1015 = .ok (.goto 4, 3) := by decide +kernel
theorem d_L_law_1018 : decode code 1018 = .ok (.iconst 0, 1) := by decide +kernel
theorem d_L_law_1019 : decode code 1019 = .ok (.invokevirtual 91, 3) := by decide +kernel
theorem d_L_law_1022 : decode code 1022 = .ok (.lcmp, 1) := by decide +kernel
theorem d_L_law_1023 : decode code 1023 = .ok (.ifCond .eq 28, 3) := by decide +kernel
theorem d_L_law_1026 : decode code 1026 = .ok (.iconst 0, 1) := by decide +kernel
theorem d_L_law_1027 : decode code 1027 = .ok (.ireturn, 1) := by decide +kernel
theorem d_L_law_1028 : decode code 1028 = .ok (.aload_n 1, 1) := by decide +kernel
theorem d_L_law_1029 : decode code 1029 = .ok (.aload_n 0, 1) := by decide +kernel
theorem d_L_law_1030 : decode code 1030 = .ok (.iload_n 3, 1) := by decide +kernel
theorem d_L_law_1031 : decode code 1031 = .ok (.iconst 1, 1) := by decide +kernel
theorem d_L_law_1032 : decode code 1032 = .ok (.iadd, 1) := by decide +kernel
theorem d_L_law_1033 : decode code 1033 = .ok (.iaload, 1) := by decide +kernel
theorem d_L_law_1034 : decode code 1034 = .ok (.invokevirtual 92, 3) := by decide +kernel
theorem d_L_law_1037 : decode code 1037 = .ok (.aload_n 2, 1) := by decide +kernel
theorem d_L_law_1038 : decode code 1038 = .ok (.aload_n 0, 1) := by decide +kernel
theorem d_L_law_1039 : decode code 1039 = .ok (.iload_n 3, 1) := by decide +kernel
theorem d_L_law_1040 : decode code 1040 = .ok (.iconst 1, 1) := by decide +kernel
theorem d_L_law_1041 : decode code 1041 = .ok (.iadd, 1) := by decide +kernel
theorem d_L_law_1042 : decode code 1042 = .ok (.iaload, 1) := by decide +kernel
theorem d_L_law_1043 : decode code 1043 = .ok (.invokevirtual 96, 3) := by decide +kernel
theorem d_L_law_1046 : decode code 1046 = .ok (.if_icmp .eq 5, 3) := by decide +kernel
theorem d_L_law_1049 : decode code 1049 = .ok (.iconst 0, 1) := by decide +kernel
theorem d_L_law_1050 : decode code 1050 = .ok (.ireturn, 1) := by decide +kernel
theorem d_L_law_1051 : decode code 1051 = .ok (.iinc 3 5, 3) := by decide +kernel
theorem d_L_law_1054 : decode code 1054 = .ok (.goto (-1036), 3) := by decide +kernel
theorem d_L_law_1057 : decode code 1057 = .ok (.iconst 1, 1) := by decide +kernel
theorem d_L_law_1058 : decode code 1058 = .ok (.ireturn, 1) := by decide +kernel
