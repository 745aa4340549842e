/-! the law's entry: its instructions, the rest -/
theorem dW_702 : decode code 702 = .ok (.aload_n 0, 1) := by decide +kernel
theorem dW_703 : decode code 703 = .ok (.iload_n 3, 1) := by decide +kernel
theorem dW_704 : decode code 704 = .ok (.iconst 2, 1) := by decide +kernel
theorem dW_705 : decode code 705 = .ok (.iadd, 1) := by decide +kernel
theorem dW_706 : decode code 706 = .ok (.iaload, 1) := by decide +kernel
theorem dW_707 : decode code 707 = .ok (.invokevirtual 87, 3) := by decide +kernel
theorem dW_710 : decode code 710 = .ok (.if_icmp .eq 530, 3) := by decide +kernel
theorem dW_713 : decode code 713 = .ok (.iconst 0, 1) := by decide +kernel
theorem dW_714 : decode code 714 = .ok (.ireturn, 1) := by decide +kernel
theorem dW_715 : decode code 715 = .ok (.aload_n 1, 1) := by decide +kernel
theorem dW_716 : decode code 716 = .ok (.aload_n 0, 1) := by decide +kernel
theorem dW_717 : decode code 717 = .ok (.iload_n 3, 1) := by decide +kernel
theorem dW_718 : decode code 718 = .ok (.iconst 1, 1) := by decide +kernel
theorem dW_719 : decode code 719 = .ok (.iadd, 1) := by decide +kernel
theorem dW_720 : decode code 720 = .ok (.iaload, 1) := by decide +kernel
theorem dW_721 : decode code 721 = .ok (.aload_n 0, 1) := by decide +kernel
theorem dW_722 : decode code 722 = .ok (.iload_n 3, 1) := by decide +kernel
theorem dW_723 : decode code 723 = .ok (.iconst 2, 1) := by decide +kernel
theorem dW_724 : decode code 724 = .ok (.iadd, 1) := by decide +kernel
theorem dW_725 : decode code 725 = .ok (.iaload, 1) := by decide +kernel
theorem dW_726 : decode code 726 = .ok (.aload_n 0, 1) := by decide +kernel
theorem dW_727 : decode code 727 = .ok (.iload_n 3, 1) := by decide +kernel
theorem dW_728 : decode code 728 = .ok (.iconst 3, 1) := by decide +kernel
theorem dW_729 : decode code 729 = .ok (.iadd, 1) := by decide +kernel
theorem dW_730 : decode code 730 = .ok (.iaload, 1) := by decide +kernel
theorem dW_731 : decode code 731 = .ok (.invokevirtual 88, 3) := by decide +kernel
theorem dW_734 : decode code 734 = .ok (.aload_n 2, 1) := by decide +kernel
theorem dW_735 : decode code 735 = .ok (.aload_n 0, 1) := by decide +kernel
theorem dW_736 : decode code 736 = .ok (.iload_n 3, 1) := by decide +kernel
theorem dW_737 : decode code 737 = .ok (.iconst 1, 1) := by decide +kernel
theorem dW_738 : decode code 738 = .ok (.iadd, 1) := by decide +kernel
theorem dW_739 : decode code 739 = .ok (.iaload, 1) := by decide +kernel
theorem dW_740 : decode code 740 = .ok (.aload_n 0, 1) := by decide +kernel
theorem dW_741 : decode code 741 = .ok (.iload_n 3, 1) := by decide +kernel
theorem dW_742 : decode code 742 = .ok (.iconst 2, 1) := by decide +kernel
theorem dW_743 : decode code 743 = .ok (.iadd, 1) := by decide +kernel
theorem dW_744 : decode code 744 = .ok (.iaload, 1) := by decide +kernel
theorem dW_745 : decode code 745 = .ok (.aload_n 0, 1) := by decide +kernel
theorem dW_746 : decode code 746 = .ok (.iload_n 3, 1) := by decide +kernel
theorem dW_747 : decode code 747 = .ok (.iconst 3, 1) := by decide +kernel
theorem dW_748 : decode code 748 = .ok (.iadd, 1) := by decide +kernel
theorem dW_749 : decode code 749 = .ok (.iaload, 1) := by decide +kernel
theorem dW_750 : decode code 750 = .ok (.invokevirtual 92, 3) := by decide +kernel
theorem dW_753 : decode code 753 = .ok (.if_icmp .eq 487, 3) := by decide +kernel
theorem dW_756 : decode code 756 = .ok (.iconst 0, 1) := by decide +kernel
theorem dW_757 : decode code 757 = .ok (.ireturn, 1) := by decide +kernel
theorem dW_758 : decode code 758 = .ok (.aload_n 1, 1) := by decide +kernel
theorem dW_759 : decode code 759 = .ok (.aload_n 0, 1) := by decide +kernel
theorem dW_760 : decode code 760 = .ok (.iload_n 3, 1) := by decide +kernel
theorem dW_761 : decode code 761 = .ok (.iconst 1, 1) := by decide +kernel
theorem dW_762 : decode code 762 = .ok (.iadd, 1) := by decide +kernel
theorem dW_763 : decode code 763 = .ok (.iaload, 1) := by decide +kernel
theorem dW_764 : decode code 764 = .ok (.aload_n 0, 1) := by decide +kernel
theorem dW_765 : decode code 765 = .ok (.iload_n 3, 1) := by decide +kernel
theorem dW_766 : decode code 766 = .ok (.iconst 2, 1) := by decide +kernel
theorem dW_767 : decode code 767 = .ok (.iadd, 1) := by decide +kernel
theorem dW_768 : decode code 768 = .ok (.iaload, 1) := by decide +kernel
theorem dW_769 : decode code 769 = .ok (.invokevirtual 93, 3) := by decide +kernel
theorem dW_772 : decode code 772 = .ok (.aload_n 2, 1) := by decide +kernel
theorem dW_773 : decode code 773 = .ok (.aload_n 0, 1) := by decide +kernel
theorem dW_774 : decode code 774 = .ok (.iload_n 3, 1) := by decide +kernel
theorem dW_775 : decode code 775 = .ok (.iconst 1, 1) := by decide +kernel
theorem dW_776 : decode code 776 = .ok (.iadd, 1) := by decide +kernel
theorem dW_777 : decode code 777 = .ok (.iaload, 1) := by decide +kernel
theorem dW_778 : decode code 778 = .ok (.aload_n 0, 1) := by decide +kernel
theorem dW_779 : decode code 779 = .ok (.iload_n 3, 1) := by decide +kernel
theorem dW_780 : decode code 780 = .ok (.iconst 2, 1) := by decide +kernel
theorem dW_781 : decode code 781 = .ok (.iadd, 1) := by decide +kernel
theorem dW_782 : decode code 782 = .ok (.iaload, 1) := by decide +kernel
theorem dW_783 : decode code 783 = .ok (.invokevirtual 96, 3) := by decide +kernel
theorem dW_786 : decode code 786 = .ok (.if_icmp .eq 454, 3) := by decide +kernel
theorem dW_789 : decode code 789 = .ok (.iconst 0, 1) := by decide +kernel
theorem dW_790 : decode code 790 = .ok (.ireturn, 1) := by decide +kernel
theorem dW_791 : decode code 791 = .ok (.aload_n 1, 1) := by decide +kernel
theorem dW_792 : decode code 792 = .ok (.aload_n 0, 1) := by decide +kernel
theorem dW_793 : decode code 793 = .ok (.iload_n 3, 1) := by decide +kernel
theorem dW_794 : decode code 794 = .ok (.iconst 1, 1) := by decide +kernel
theorem dW_795 : decode code 795 = .ok (.iadd, 1) := by decide +kernel
theorem dW_796 : decode code 796 = .ok (.iaload, 1) := by decide +kernel
theorem dW_797 : decode code 797 = .ok (.aload_n 0, 1) := by decide +kernel
theorem dW_798 : decode code 798 = .ok (.iload_n 3, 1) := by decide +kernel
theorem dW_799 : decode code 799 = .ok (.iconst 2, 1) := by decide +kernel
theorem dW_800 : decode code 800 = .ok (.iadd, 1) := by decide +kernel
theorem dW_801 : decode code 801 = .ok (.iaload, 1) := by decide +kernel
theorem dW_802 : decode code 802 = .ok (.invokevirtual 97, 3) := by decide +kernel
theorem dW_805 : decode code 805 = .ok (.aload_n 2, 1) := by decide +kernel
theorem dW_806 : decode code 806 = .ok (.aload_n 0, 1) := by decide +kernel
theorem dW_807 : decode code 807 = .ok (.iload_n 3, 1) := by decide +kernel
theorem dW_808 : decode code 808 = .ok (.iconst 1, 1) := by decide +kernel
theorem dW_809 : decode code 809 = .ok (.iadd, 1) := by decide +kernel
theorem dW_810 : decode code 810 = .ok (.iaload, 1) := by decide +kernel
theorem dW_811 : decode code 811 = .ok (.aload_n 0, 1) := by decide +kernel
theorem dW_812 : decode code 812 = .ok (.iload_n 3, 1) := by decide +kernel
theorem dW_813 : decode code 813 = .ok (.iconst 2, 1) := by decide +kernel
theorem dW_814 : decode code 814 = .ok (.iadd, 1) := by decide +kernel
theorem dW_815 : decode code 815 = .ok (.iaload, 1) := by decide +kernel
theorem dW_816 : decode code 816 = .ok (.invokevirtual 100, 3) := by decide +kernel
theorem dW_819 : decode code 819 = .ok (.if_icmp .eq 421, 3) := by decide +kernel
theorem dW_822 : decode code 822 = .ok (.iconst 0, 1) := by decide +kernel
theorem dW_823 : decode code 823 = .ok (.ireturn, 1) := by decide +kernel
theorem dW_824 : decode code 824 = .ok (.aload_n 1, 1) := by decide +kernel
theorem dW_825 : decode code 825 = .ok (.aload_n 0, 1) := by decide +kernel
theorem dW_826 : decode code 826 = .ok (.iload_n 3, 1) := by decide +kernel
theorem dW_827 : decode code 827 = .ok (.iconst 1, 1) := by decide +kernel
theorem dW_828 : decode code 828 = .ok (.iadd, 1) := by decide +kernel
theorem dW_829 : decode code 829 = .ok (.iaload, 1) := by decide +kernel
theorem dW_830 : decode code 830 = .ok (.aload_n 0, 1) := by decide +kernel
theorem dW_831 : decode code 831 = .ok (.iload_n 3, 1) := by decide +kernel
theorem dW_832 : decode code 832 = .ok (.iconst 2, 1) := by decide +kernel
theorem dW_833 : decode code 833 = .ok (.iadd, 1) := by decide +kernel
theorem dW_834 : decode code 834 = .ok (.iaload, 1) := by decide +kernel
theorem dW_835 : decode code 835 = .ok (.invokevirtual 101, 3) := by decide +kernel
theorem dW_838 : decode code 838 = .ok (.aload_n 2, 1) := by decide +kernel
theorem dW_839 : decode code 839 = .ok (.aload_n 0, 1) := by decide +kernel
theorem dW_840 : decode code 840 = .ok (.iload_n 3, 1) := by decide +kernel
theorem dW_841 : decode code 841 = .ok (.iconst 1, 1) := by decide +kernel
theorem dW_842 : decode code 842 = .ok (.iadd, 1) := by decide +kernel
theorem dW_843 : decode code 843 = .ok (.iaload, 1) := by decide +kernel
theorem dW_844 : decode code 844 = .ok (.aload_n 0, 1) := by decide +kernel
theorem dW_845 : decode code 845 = .ok (.iload_n 3, 1) := by decide +kernel
theorem dW_846 : decode code 846 = .ok (.iconst 2, 1) := by decide +kernel
theorem dW_847 : decode code 847 = .ok (.iadd, 1) := by decide +kernel
theorem dW_848 : decode code 848 = .ok (.iaload, 1) := by decide +kernel
theorem dW_849 : decode code 849 = .ok (.invokevirtual 104, 3) := by decide +kernel
theorem dW_852 : decode code 852 = .ok (.if_icmp .eq 388, 3) := by decide +kernel
theorem dW_855 : decode code 855 = .ok (.iconst 0, 1) := by decide +kernel
theorem dW_856 : decode code 856 = .ok (.ireturn, 1) := by decide +kernel
theorem dW_857 : decode code 857 = .ok (.aload_n 1, 1) := by decide +kernel
theorem dW_858 : decode code 858 = .ok (.aload_n 0, 1) := by decide +kernel
theorem dW_859 : decode code 859 = .ok (.iload_n 3, 1) := by decide +kernel
theorem dW_860 : decode code 860 = .ok (.iconst 1, 1) := by decide +kernel
theorem dW_861 : decode code 861 = .ok (.iadd, 1) := by decide +kernel
theorem dW_862 : decode code 862 = .ok (.iaload, 1) := by decide +kernel
theorem dW_863 : decode code 863 = .ok (.aload_n 0, 1) := by decide +kernel
theorem dW_864 : decode code 864 = .ok (.iload_n 3, 1) := by decide +kernel
theorem dW_865 : decode code 865 = .ok (.iconst 2, 1) := by decide +kernel
theorem dW_866 : decode code 866 = .ok (.iadd, 1) := by decide +kernel
theorem dW_867 : decode code 867 = .ok (.iaload, 1) := by decide +kernel
theorem dW_868 : decode code 868 = .ok (.invokevirtual 105, 3) := by decide +kernel
theorem dW_871 : decode code 871 = .ok (.aload_n 2, 1) := by decide +kernel
theorem dW_872 : decode code 872 = .ok (.aload_n 0, 1) := by decide +kernel
theorem dW_873 : decode code 873 = .ok (.iload_n 3, 1) := by decide +kernel
theorem dW_874 : decode code 874 = .ok (.iconst 1, 1) := by decide +kernel
theorem dW_875 : decode code 875 = .ok (.iadd, 1) := by decide +kernel
theorem dW_876 : decode code 876 = .ok (.iaload, 1) := by decide +kernel
theorem dW_877 : decode code 877 = .ok (.aload_n 0, 1) := by decide +kernel
theorem dW_878 : decode code 878 = .ok (.iload_n 3, 1) := by decide +kernel
theorem dW_879 : decode code 879 = .ok (.iconst 2, 1) := by decide +kernel
theorem dW_880 : decode code 880 = .ok (.iadd, 1) := by decide +kernel
theorem dW_881 : decode code 881 = .ok (.iaload, 1) := by decide +kernel
theorem dW_882 : decode code 882 = .ok (.invokevirtual 108, 3) := by decide +kernel
theorem dW_885 : decode code 885 = .ok (.if_icmp .eq 355, 3) := by decide +kernel
theorem dW_888 : decode code 888 = .ok (.iconst 0, 1) := by decide +kernel
theorem dW_889 : decode code 889 = .ok (.ireturn, 1) := by decide +kernel
theorem dW_890 : decode code 890 = .ok (.aload_n 1, 1) := by decide +kernel
theorem dW_891 : decode code 891 = .ok (.aload_n 0, 1) := by decide +kernel
theorem dW_892 : decode code 892 = .ok (.iload_n 3, 1) := by decide +kernel
theorem dW_893 : decode code 893 = .ok (.iconst 1, 1) := by decide +kernel
theorem dW_894 : decode code 894 = .ok (.iadd, 1) := by decide +kernel
theorem dW_895 : decode code 895 = .ok (.iaload, 1) := by decide +kernel
theorem dW_896 : decode code 896 = .ok (.aload_n 0, 1) := by decide +kernel
theorem dW_897 : decode code 897 = .ok (.iload_n 3, 1) := by decide +kernel
theorem dW_898 : decode code 898 = .ok (.iconst 2, 1) := by decide +kernel
theorem dW_899 : decode code 899 = .ok (.iadd, 1) := by decide +kernel
theorem dW_900 : decode code 900 = .ok (.iaload, 1) := by decide +kernel
theorem dW_901 : decode code 901 = .ok (.invokevirtual 109, 3) := by decide +kernel
theorem dW_904 : decode code 904 = .ok (.aload_n 2, 1) := by decide +kernel
theorem dW_905 : decode code 905 = .ok (.aload_n 0, 1) := by decide +kernel
theorem dW_906 : decode code 906 = .ok (.iload_n 3, 1) := by decide +kernel
theorem dW_907 : decode code 907 = .ok (.iconst 1, 1) := by decide +kernel
theorem dW_908 : decode code 908 = .ok (.iadd, 1) := by decide +kernel
theorem dW_909 : decode code 909 = .ok (.iaload, 1) := by decide +kernel
theorem dW_910 : decode code 910 = .ok (.aload_n 0, 1) := by decide +kernel
theorem dW_911 : decode code 911 = .ok (.iload_n 3, 1) := by decide +kernel
theorem dW_912 : decode code 912 = .ok (.iconst 2, 1) := by decide +kernel
theorem dW_913 : decode code 913 = .ok (.iadd, 1) := by decide +kernel
theorem dW_914 : decode code 914 = .ok (.iaload, 1) := by decide +kernel
theorem dW_915 : decode code 915 = .ok (.invokevirtual 113, 3) := by decide +kernel
theorem dW_918 : decode code 918 = .ok (.lcmp, 1) := by decide +kernel
theorem dW_919 : decode code 919 = .ok (.ifCond .eq 321, 3) := by decide +kernel
theorem dW_922 : decode code 922 = .ok (.iconst 0, 1) := by decide +kernel
theorem dW_923 : decode code 923 = .ok (.ireturn, 1) := by decide +kernel
theorem dW_924 : decode code 924 = .ok (.aload_n 1, 1) := by decide +kernel
theorem dW_925 : decode code 925 = .ok (.aload_n 0, 1) := by decide +kernel
theorem dW_926 : decode code 926 = .ok (.iload_n 3, 1) := by decide +kernel
theorem dW_927 : decode code 927 = .ok (.iconst 1, 1) := by decide +kernel
theorem dW_928 : decode code 928 = .ok (.iadd, 1) := by decide +kernel
theorem dW_929 : decode code 929 = .ok (.iaload, 1) := by decide +kernel
theorem dW_930 : decode code 930 = .ok (.aload_n 0, 1) := by decide +kernel
theorem dW_931 : decode code 931 = .ok (.iload_n 3, 1) := by decide +kernel
theorem dW_932 : decode code 932 = .ok (.iconst 2, 1) := by decide +kernel
theorem dW_933 : decode code 933 = .ok (.iadd, 1) := by decide +kernel
theorem dW_934 : decode code 934 = .ok (.iaload, 1) := by decide +kernel
theorem dW_935 : decode code 935 = .ok (.aload_n 0, 1) := by decide +kernel
theorem dW_936 : decode code 936 = .ok (.iload_n 3, 1) := by decide +kernel
theorem dW_937 : decode code 937 = .ok (.iconst 3, 1) := by decide +kernel
theorem dW_938 : decode code 938 = .ok (.iadd, 1) := by decide +kernel
theorem dW_939 : decode code 939 = .ok (.iaload, 1) := by decide +kernel
theorem dW_940 : decode code 940 = .ok (.invokevirtual 114, 3) := by decide +kernel
theorem dW_943 : decode code 943 = .ok (.aload_n 2, 1) := by decide +kernel
theorem dW_944 : decode code 944 = .ok (.aload_n 0, 1) := by decide +kernel
theorem dW_945 : decode code 945 = .ok (.iload_n 3, 1) := by decide +kernel
theorem dW_946 : decode code 946 = .ok (.iconst 1, 1) := by decide +kernel
theorem dW_947 : decode code 947 = .ok (.iadd, 1) := by decide +kernel
theorem dW_948 : decode code 948 = .ok (.iaload, 1) := by decide +kernel
theorem dW_949 : decode code 949 = .ok (.aload_n 0, 1) := by decide +kernel
theorem dW_950 : decode code 950 = .ok (.iload_n 3, 1) := by decide +kernel
theorem dW_951 : decode code 951 = .ok (.iconst 2, 1) := by decide +kernel
theorem dW_952 : decode code 952 = .ok (.iadd, 1) := by decide +kernel
theorem dW_953 : decode code 953 = .ok (.iaload, 1) := by decide +kernel
theorem dW_954 : decode code 954 = .ok (.aload_n 0, 1) := by decide +kernel
theorem dW_955 : decode code 955 = .ok (.iload_n 3, 1) := by decide +kernel
theorem dW_956 : decode code 956 = .ok (.iconst 3, 1) := by decide +kernel
theorem dW_957 : decode code 957 = .ok (.iadd, 1) := by decide +kernel
theorem dW_958 : decode code 958 = .ok (.iaload, 1) := by decide +kernel
theorem dW_959 : decode code 959 = .ok (.invokevirtual 117, 3) := by decide +kernel
theorem dW_962 : decode code 962 = .ok (.if_icmp .eq 278, 3) := by decide +kernel
theorem dW_965 : decode code 965 = .ok (.iconst 0, 1) := by decide +kernel
theorem dW_966 : decode code 966 = .ok (.ireturn, 1) := by decide +kernel
theorem dW_967 : decode code 967 = .ok (.aload_n 1, 1) := by decide +kernel
theorem dW_968 : decode code 968 = .ok (.aload_n 0, 1) := by decide +kernel
theorem dW_969 : decode code 969 = .ok (.iload_n 3, 1) := by decide +kernel
theorem dW_970 : decode code 970 = .ok (.iconst 1, 1) := by decide +kernel
theorem dW_971 : decode code 971 = .ok (.iadd, 1) := by decide +kernel
theorem dW_972 : decode code 972 = .ok (.iaload, 1) := by decide +kernel
theorem dW_973 : decode code 973 = .ok (.aload_n 0, 1) := by decide +kernel
theorem dW_974 : decode code 974 = .ok (.iload_n 3, 1) := by decide +kernel
theorem dW_975 : decode code 975 = .ok (.iconst 2, 1) := by decide +kernel
theorem dW_976 : decode code 976 = .ok (.iadd, 1) := by decide +kernel
theorem dW_977 : decode code 977 = .ok (.iaload, 1) := by decide +kernel
theorem dW_978 : decode code 978 = .ok (.aload_n 0, 1) := by decide +kernel
theorem dW_979 : decode code 979 = .ok (.iload_n 3, 1) := by decide +kernel
theorem dW_980 : decode code 980 = .ok (.iconst 3, 1) := by decide +kernel
theorem dW_981 : decode code 981 = .ok (.iadd, 1) := by decide +kernel
theorem dW_982 : decode code 982 = .ok (.iaload, 1) := by decide +kernel
theorem dW_983 : decode code 983 = .ok (.invokevirtual 118, 3) := by decide +kernel
theorem dW_986 : decode code 986 = .ok (.aload_n 2, 1) := by decide +kernel
theorem dW_987 : decode code 987 = .ok (.aload_n 0, 1) := by decide +kernel
theorem dW_988 : decode code 988 = .ok (.iload_n 3, 1) := by decide +kernel
theorem dW_989 : decode code 989 = .ok (.iconst 1, 1) := by decide +kernel
theorem dW_990 : decode code 990 = .ok (.iadd, 1) := by decide +kernel
theorem dW_991 : decode code 991 = .ok (.iaload, 1) := by decide +kernel
theorem dW_992 : decode code 992 = .ok (.aload_n 0, 1) := by decide +kernel
theorem dW_993 : decode code 993 = .ok (.iload_n 3, 1) := by decide +kernel
theorem dW_994 : decode code 994 = .ok (.iconst 2, 1) := by decide +kernel
theorem dW_995 : decode code 995 = .ok (.iadd, 1) := by decide +kernel
theorem dW_996 : decode code 996 = .ok (.iaload, 1) := by decide +kernel
theorem dW_997 : decode code 997 = .ok (.aload_n 0, 1) := by decide +kernel
theorem dW_998 : decode code 998 = .ok (.iload_n 3, 1) := by decide +kernel
theorem dW_999 : decode code 999 = .ok (.iconst 3, 1) := by decide +kernel
theorem dW_1000 : decode code 1000 = .ok (.iadd, 1) := by decide +kernel
theorem dW_1001 : decode code 1001 = .ok (.iaload, 1) := by decide +kernel
theorem dW_1002 : decode code 1002 = .ok (.invokevirtual 121, 3) := by decide +kernel
theorem dW_1005 : decode code 1005 = .ok (.if_icmp .eq 235, 3) := by decide +kernel
theorem dW_1008 : decode code 1008 = .ok (.iconst 0, 1) := by decide +kernel
theorem dW_1009 : decode code 1009 = .ok (.ireturn, 1) := by decide +kernel
theorem dW_1010 : decode code 1010 = .ok (.aload_n 1, 1) := by decide +kernel
theorem dW_1011 : decode code 1011 = .ok (.invokevirtual 122, 3) := by decide +kernel
theorem dW_1014 : decode code 1014 = .ok (.aload_n 2, 1) := by decide +kernel
theorem dW_1015 : decode code 1015 = .ok (.invokevirtual 125, 3) := by decide +kernel
theorem dW_1018 : decode code 1018 = .ok (.if_icmp .eq 222, 3) := by decide +kernel
theorem dW_1021 : decode code 1021 = .ok (.iconst 0, 1) := by decide +kernel
theorem dW_1022 : decode code 1022 = .ok (.ireturn, 1) := by decide +kernel
theorem dW_1023 : decode code 1023 = .ok (.aload_n 1, 1) := by decide +kernel
theorem dW_1024 : decode code 1024 = .ok (.aload_n 0, 1) := by decide +kernel
theorem dW_1025 : decode code 1025 = .ok (.iload_n 3, 1) := by decide +kernel
theorem dW_1026 : decode code 1026 = .ok (.iconst 1, 1) := by decide +kernel
theorem dW_1027 : decode code 1027 = .ok (.iadd, 1) := by decide +kernel
theorem dW_1028 : decode code 1028 = .ok (.iaload, 1) := by decide +kernel
theorem dW_1029 : decode code 1029 = .ok (.invokevirtual 126, 3) := by decide +kernel
theorem dW_1032 : decode code 1032 = .ok (.aload_n 2, 1) := by decide +kernel
theorem dW_1033 : decode code 1033 = .ok (.aload_n 0, 1) := by decide +kernel
theorem dW_1034 : decode code 1034 = .ok (.iload_n 3, 1) := by decide +kernel
theorem dW_1035 : decode code 1035 = .ok (.iconst 1, 1) := by decide +kernel
theorem dW_1036 : decode code 1036 = .ok (.iadd, 1) := by decide +kernel
theorem dW_1037 : decode code 1037 = .ok (.iaload, 1) := by decide +kernel
theorem dW_1038 : decode code 1038 = .ok (.invokevirtual 129, 3) := by decide +kernel
theorem dW_1041 : decode code 1041 = .ok (.if_icmp .eq 199, 3) := by decide +kernel
theorem dW_1044 : decode code 1044 = .ok (.iconst 0, 1) := by decide +kernel
theorem dW_1045 : decode code 1045 = .ok (.ireturn, 1) := by decide +kernel
theorem dW_1046 : decode code 1046 = .ok (.aload_n 1, 1) := by decide +kernel
theorem dW_1047 : decode code 1047 = .ok (.aload_n 0, 1) := by decide +kernel
theorem dW_1048 : decode code 1048 = .ok (.iload_n 3, 1) := by decide +kernel
theorem dW_1049 : decode code 1049 = .ok (.iconst 1, 1) := by decide +kernel
theorem dW_1050 : decode code 1050 = .ok (.iadd, 1) := by decide +kernel
theorem dW_1051 : decode code 1051 = .ok (.iaload, 1) := by decide +kernel
theorem dW_1052 : decode code 1052 = .ok (.aload_n 0, 1) := by decide +kernel
theorem dW_1053 : decode code 1053 = .ok (.iload_n 3, 1) := by decide +kernel
theorem dW_1054 : decode code 1054 = .ok (.iconst 2, 1) := by decide +kernel
theorem dW_1055 : decode code 1055 = .ok (.iadd, 1) := by decide +kernel
theorem dW_1056 : decode code 1056 = .ok (.iaload, 1) := by decide +kernel
theorem dW_1057 : decode code 1057 = .ok (.invokevirtual 130, 3) := by decide +kernel
theorem dW_1060 : decode code 1060 = .ok (.aload_n 2, 1) := by decide +kernel
theorem dW_1061 : decode code 1061 = .ok (.aload_n 0, 1) := by decide +kernel
theorem dW_1062 : decode code 1062 = .ok (.iload_n 3, 1) := by decide +kernel
theorem dW_1063 : decode code 1063 = .ok (.iconst 1, 1) := by decide +kernel
theorem dW_1064 : decode code 1064 = .ok (.iadd, 1) := by decide +kernel
theorem dW_1065 : decode code 1065 = .ok (.iaload, 1) := by decide +kernel
theorem dW_1066 : decode code 1066 = .ok (.aload_n 0, 1) := by decide +kernel
theorem dW_1067 : decode code 1067 = .ok (.iload_n 3, 1) := by decide +kernel
theorem dW_1068 : decode code 1068 = .ok (.iconst 2, 1) := by decide +kernel
theorem dW_1069 : decode code 1069 = .ok (.iadd, 1) := by decide +kernel
theorem dW_1070 : decode code 1070 = .ok (.iaload, 1) := by decide +kernel
theorem dW_1071 : decode code 1071 = .ok (.invokevirtual 133, 3) := by decide +kernel
theorem dW_1074 : decode code 1074 = .ok (.if_icmp .eq 166, 3) := by decide +kernel
theorem dW_1077 : decode code 1077 = .ok (.iconst 0, 1) := by decide +kernel
theorem dW_1078 : decode code 1078 = .ok (.ireturn, 1) := by decide +kernel
theorem dW_1079 : decode code 1079 = .ok (.aload_n 1, 1) := by decide +kernel
theorem dW_1080 : decode code 1080 = .ok (.aload_n 0, 1) := by decide +kernel
theorem dW_1081 : decode code 1081 = .ok (.iload_n 3, 1) := by decide +kernel
theorem dW_1082 : decode code 1082 = .ok (.iconst 1, 1) := by decide +kernel
theorem dW_1083 : decode code 1083 = .ok (.iadd, 1) := by decide +kernel
theorem dW_1084 : decode code 1084 = .ok (.iaload, 1) := by decide +kernel
theorem dW_1085 : decode code 1085 = .ok (.invokevirtual 134, 3) := by decide +kernel
theorem dW_1088 : decode code 1088 = .ok (.aload_n 2, 1) := by decide +kernel
theorem dW_1089 : decode code 1089 = .ok (.aload_n 0, 1) := by decide +kernel
theorem dW_1090 : decode code 1090 = .ok (.iload_n 3, 1) := by decide +kernel
theorem dW_1091 : decode code 1091 = .ok (.iconst 1, 1) := by decide +kernel
theorem dW_1092 : decode code 1092 = .ok (.iadd, 1) := by decide +kernel
theorem dW_1093 : decode code 1093 = .ok (.iaload, 1) := by decide +kernel
theorem dW_1094 : decode code 1094 = .ok (.invokevirtual 137, 3) := by decide +kernel
theorem dW_1097 : decode code 1097 = .ok (.if_icmp .eq 143, 3) := by decide +kernel
theorem dW_1100 : decode code 1100 = .ok (.iconst 0, 1) := by decide +kernel
theorem dW_1101 : decode code 1101 = .ok (.ireturn, 1) := by decide +kernel
theorem dW_1102 : decode code 1102 = .ok (.aload_n 1, 1) := by decide +kernel
theorem dW_1103 : decode code 1103 = .ok (.aload_n 0, 1) := by decide +kernel
theorem dW_1104 : decode code 1104 = .ok (.iload_n 3, 1) := by decide +kernel
theorem dW_1105 : decode code 1105 = .ok (.iconst 1, 1) := by decide +kernel
theorem dW_1106 : decode code 1106 = .ok (.iadd, 1) := by decide +kernel
theorem dW_1107 : decode code 1107 = .ok (.iaload, 1) := by decide +kernel
theorem dW_1108 : decode code 1108 = .ok (.aload_n 0, 1) := by decide +kernel
theorem dW_1109 : decode code 1109 = .ok (.iload_n 3, 1) := by decide +kernel
theorem dW_1110 : decode code 1110 = .ok (.iconst 2, 1) := by decide +kernel
theorem dW_1111 : decode code 1111 = .ok (.iadd, 1) := by decide +kernel
theorem dW_1112 : decode code 1112 = .ok (.iaload, 1) := by decide +kernel
theorem dW_1113 : decode code 1113 = .ok (.invokevirtual 138, 3) := by decide +kernel
theorem dW_1116 : decode code 1116 = .ok (.aload_n 2, 1) := by decide +kernel
theorem dW_1117 : decode code 1117 = .ok (.aload_n 0, 1) := by decide +kernel
theorem dW_1118 : decode code 1118 = .ok (.iload_n 3, 1) := by decide +kernel
theorem dW_1119 : decode code 1119 = .ok (.iconst 1, 1) := by decide +kernel
theorem dW_1120 : decode code 1120 = .ok (.iadd, 1) := by decide +kernel
theorem dW_1121 : decode code 1121 = .ok (.iaload, 1) := by decide +kernel
theorem dW_1122 : decode code 1122 = .ok (.aload_n 0, 1) := by decide +kernel
theorem dW_1123 : decode code 1123 = .ok (.iload_n 3, 1) := by decide +kernel
theorem dW_1124 : decode code 1124 = .ok (.iconst 2, 1) := by decide +kernel
theorem dW_1125 : decode code 1125 = .ok (.iadd, 1) := by decide +kernel
theorem dW_1126 : decode code 1126 = .ok (.iaload, 1) := by decide +kernel
theorem dW_1127 : decode code 1127 = .ok (.invokevirtual 141, 3) := by decide +kernel
theorem dW_1130 : decode code 1130 = .ok (.if_icmp .eq 110, 3) := by decide +kernel
theorem dW_1133 : decode code 1133 = .ok (.iconst 0, 1) := by decide +kernel
theorem dW_1134 : decode code 1134 = .ok (.ireturn, 1) := by decide +kernel
theorem dW_1135 : decode code 1135 = .ok (.aload_n 1, 1) := by decide +kernel
theorem dW_1136 : decode code 1136 = .ok (.aload_n 0, 1) := by decide +kernel
theorem dW_1137 : decode code 1137 = .ok (.iload_n 3, 1) := by decide +kernel
theorem dW_1138 : decode code 1138 = .ok (.iconst 1, 1) := by decide +kernel
theorem dW_1139 : decode code 1139 = .ok (.iadd, 1) := by decide +kernel
theorem dW_1140 : decode code 1140 = .ok (.iaload, 1) := by decide +kernel
theorem dW_1141 : decode code 1141 = .ok (.aload_n 0, 1) := by decide +kernel
theorem dW_1142 : decode code 1142 = .ok (.iload_n 3, 1) := by decide +kernel
theorem dW_1143 : decode code 1143 = .ok (.iconst 2, 1) := by decide +kernel
theorem dW_1144 : decode code 1144 = .ok (.iadd, 1) := by decide +kernel
theorem dW_1145 : decode code 1145 = .ok (.iaload, 1) := by decide +kernel
theorem dW_1146 : decode code 1146 = .ok (.invokevirtual 142, 3) := by decide +kernel
theorem dW_1149 : decode code 1149 = .ok (.aload_n 2, 1) := by decide +kernel
theorem dW_1150 : decode code 1150 = .ok (.aload_n 0, 1) := by decide +kernel
theorem dW_1151 : decode code 1151 = .ok (.iload_n 3, 1) := by decide +kernel
theorem dW_1152 : decode code 1152 = .ok (.iconst 1, 1) := by decide +kernel
theorem dW_1153 : decode code 1153 = .ok (.iadd, 1) := by decide +kernel
theorem dW_1154 : decode code 1154 = .ok (.iaload, 1) := by decide +kernel
theorem dW_1155 : decode code 1155 = .ok (.aload_n 0, 1) := by decide +kernel
theorem dW_1156 : decode code 1156 = .ok (.iload_n 3, 1) := by decide +kernel
theorem dW_1157 : decode code 1157 = .ok (.iconst 2, 1) := by decide +kernel
theorem dW_1158 : decode code 1158 = .ok (.iadd, 1) := by decide +kernel
theorem dW_1159 : decode code 1159 = .ok (.iaload, 1) := by decide +kernel
theorem dW_1160 : decode code 1160 = .ok (.invokevirtual 145, 3) := by decide +kernel
theorem dW_1163 : decode code 1163 = .ok (.if_icmp .eq 77, 3) := by decide +kernel
theorem dW_1166 : decode code 1166 = .ok (.iconst 0, 1) := by decide +kernel
theorem dW_1167 : decode code 1167 = .ok (.ireturn, 1) := by decide +kernel
theorem dW_1168 : decode code 1168 = .ok (.aload_n 1, 1) := by decide +kernel
theorem dW_1169 : decode code 1169 = .ok (.invokevirtual 146, 3) := by decide +kernel
theorem dW_1172 : decode code 1172 = .ok (.aload_n 2, 1) := by decide +kernel
theorem dW_1173 : decode code 1173 = .ok (.invokevirtual 149, 3) := by decide +kernel
theorem dW_1176 : decode code 1176 = .ok (.if_icmp .eq 64, 3) := by decide +kernel
theorem dW_1179 : decode code 1179 = .ok (.iconst 0, 1) := by decide +kernel
theorem dW_1180 : decode code 1180 = .ok (.ireturn, 1) := by decide +kernel
theorem dW_1181 : decode code 1181 = .ok (.aload_n 1, 1) := by decide +kernel
theorem dW_1182 : decode code 1182 = .ok (.invokevirtual 150, 3) := by decide +kernel
theorem dW_1185 : decode code 1185 = .ok (.aload_n 2, 1) := by decide +kernel
theorem dW_1186 : decode code 1186 = .ok (.invokevirtual 154, 3) := by decide +kernel
theorem dW_1189 : decode code 1189 = .ok (.if_icmp .eq 51, 3) := by decide +kernel
theorem dW_1192 : decode code 1192 = .ok (.iconst 0, 1) := by decide +kernel
theorem dW_1193 : decode code 1193 = .ok (.ireturn, 1) := by decide +kernel
theorem dW_1194 : decode code 1194 = .ok (.aload_n 1, 1) := by decide +kernel
theorem dW_1195 : decode code 1195 = .ok (.aload_n 0, 1) := by decide +kernel
theorem dW_1196 : decode code 1196 = .ok (.iload_n 3, 1) := by decide +kernel
theorem dW_1197 : decode code 1197 = .ok (.iconst 1, 1) := by decide +kernel
theorem dW_1198 : decode code 1198 = .ok (.iadd, 1) := by decide +kernel
theorem dW_1199 : decode code 1199 = .ok (.iaload, 1) := by decide +kernel
theorem dW_1200 : decode code 1200 = .ok (.invokevirtual 155, 3) := by decide +kernel
theorem dW_1203 : decode code 1203 = .ok (.aload_n 2, 1) := by decide +kernel
theorem dW_1204 : decode code 1204 = .ok (.aload_n 0, 1) := by decide +kernel
theorem dW_1205 : decode code 1205 = .ok (.iload_n 3, 1) := by decide +kernel
theorem dW_1206 : decode code 1206 = .ok (.iconst 1, 1) := by decide +kernel
theorem dW_1207 : decode code 1207 = .ok (.iadd, 1) := by decide +kernel
theorem dW_1208 : decode code 1208 = .ok (.iaload, 1) := by decide +kernel
theorem dW_1209 : decode code 1209 = .ok (.invokevirtual 158, 3) := by decide +kernel
theorem dW_1212 : decode code 1212 = .ok (.if_icmp .eq 28, 3) := by decide +kernel
theorem dW_1215 : decode code 1215 = .ok (.iconst 0, 1) := by decide +kernel
theorem dW_1216 : decode code 1216 = .ok (.ireturn, 1) := by decide +kernel
theorem dW_1217 : decode code 1217 = .ok (.aload_n 1, 1) := by decide +kernel
theorem dW_1218 : decode code 1218 = .ok (.aload_n 0, 1) := by decide +kernel
theorem dW_1219 : decode code 1219 = .ok (.iload_n 3, 1) := by decide +kernel
theorem dW_1220 : decode code 1220 = .ok (.iconst 1, 1) := by decide +kernel
theorem dW_1221 : decode code 1221 = .ok (.iadd, 1) := by decide +kernel
theorem dW_1222 : decode code 1222 = .ok (.iaload, 1) := by decide +kernel
theorem dW_1223 : decode code 1223 = .ok (.invokevirtual 159, 3) := by decide +kernel
theorem dW_1226 : decode code 1226 = .ok (.aload_n 2, 1) := by decide +kernel
theorem dW_1227 : decode code 1227 = .ok (.aload_n 0, 1) := by decide +kernel
theorem dW_1228 : decode code 1228 = .ok (.iload_n 3, 1) := by decide +kernel
theorem dW_1229 : decode code 1229 = .ok (.iconst 1, 1) := by decide +kernel
theorem dW_1230 : decode code 1230 = .ok (.iadd, 1) := by decide +kernel
theorem dW_1231 : decode code 1231 = .ok (.iaload, 1) := by decide +kernel
theorem dW_1232 : decode code 1232 = .ok (.invokevirtual 162, 3) := by decide +kernel
theorem dW_1235 : decode code 1235 = .ok (.if_icmp .eq 5, 3) := by decide +kernel
theorem dW_1238 : decode code 1238 = .ok (.iconst 0, 1) := by decide +kernel
theorem dW_1239 : decode code 1239 = .ok (.ireturn, 1) := by decide +kernel
theorem dW_1240 : decode code 1240 = .ok (.iinc 3 6, 3) := by decide +kernel
theorem dW_1243 : decode code 1243 = .ok (.goto (-1225), 3) := by decide +kernel
theorem dW_1246 : decode code 1246 = .ok (.iconst 1, 1) := by decide +kernel
theorem dW_1247 : decode code 1247 = .ok (.ireturn, 1) := by decide +kernel
