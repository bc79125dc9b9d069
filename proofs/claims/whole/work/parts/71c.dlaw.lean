theorem dL_law_674 : decode code 674 = .ok (.ireturn, 1) := by decide +kernel
theorem dL_law_675 : decode code 675 = .ok (.aload_n 1, 1) := by decide +kernel
theorem dL_law_676 : decode code 676 = .ok (.aload_n 0, 1) := by decide +kernel
theorem dL_law_677 : decode code 677 = .ok (.iload_n 3, 1) := by decide +kernel
theorem dL_law_678 : decode code 678 = .ok (.iconst 1, 1) := by decide +kernel
theorem dL_law_679 : decode code 679 = .ok (.iadd, 1) := by decide +kernel
theorem dL_law_680 : decode code 680 = .ok (.iaload, 1) := by decide +kernel
theorem dL_law_681 : decode code 681 = .ok (.aload_n 0, 1) := by decide +kernel
theorem dL_law_682 : decode code 682 = .ok (.iload_n 3, 1) := by decide +kernel
theorem dL_law_683 : decode code 683 = .ok (.iconst 2, 1) := by decide +kernel
theorem dL_law_684 : decode code 684 = .ok (.iadd, 1) := by decide +kernel
theorem dL_law_685 : decode code 685 = .ok (.iaload, 1) := by decide +kernel
theorem dL_law_686 : decode code 686 = .ok (.aload_n 0, 1) := by decide +kernel
theorem dL_law_687 : decode code 687 = .ok (.iload_n 3, 1) := by decide +kernel
theorem dL_law_688 : decode code 688 = .ok (.iconst 3, 1) := by decide +kernel
theorem dL_law_689 : decode code 689 = .ok (.iadd, 1) := by decide +kernel
theorem dL_law_690 : decode code 690 = .ok (.iaload, 1) := by decide +kernel
theorem dL_law_691 : decode code 691 = .ok (.aload_n 0, 1) := by decide +kernel
theorem dL_law_692 : decode code 692 = .ok (.iload_n 3, 1) := by decide +kernel
theorem dL_law_693 : decode code 693 = .ok (.iconst 4, 1) := by decide +kernel
theorem dL_law_694 : decode code 694 = .ok (.iadd, 1) := by decide +kernel
theorem dL_law_695 : decode code 695 = .ok (.iaload, 1) := by decide +kernel
theorem dL_law_696 : decode code 696 = .ok (.invokevirtual 74, 3) := by decide +kernel
theorem dL_law_699 : decode code 699 = .ok (.aload_n 2, 1) := by decide +kernel
theorem dL_law_700 : decode code 700 = .ok (.aload_n 0, 1) := by decide +kernel
theorem dL_law_701 : decode code 701 = .ok (.iload_n 3, 1) := by decide +kernel
theorem dL_law_702 : decode code 702 = .ok (.iconst 1, 1) := by decide +kernel
theorem dL_law_703 : decode code 703 = .ok (.iadd, 1) := by decide +kernel
theorem dL_law_704 : decode code 704 = .ok (.iaload, 1) := by decide +kernel
theorem dL_law_705 : decode code 705 = .ok (.aload_n 0, 1) := by decide +kernel
theorem dL_law_706 : decode code 706 = .ok (.iload_n 3, 1) := by decide +kernel
theorem dL_law_707 : decode code 707 = .ok (.iconst 2, 1) := by decide +kernel
theorem dL_law_708 : decode code 708 = .ok (.iadd, 1) := by decide +kernel
theorem dL_law_709 : decode code 709 = .ok (.iaload, 1) := by decide +kernel
theorem dL_law_710 : decode code 710 = .ok (.aload_n 0, 1) := by decide +kernel
theorem dL_law_711 : decode code 711 = .ok (.iload_n 3, 1) := by decide +kernel
theorem dL_law_712 : decode code 712 = .ok (.iconst 3, 1) := by decide +kernel
theorem dL_law_713 : decode code 713 = .ok (.iadd, 1) := by decide +kernel
theorem dL_law_714 : decode code 714 = .ok (.iaload, 1) := by decide +kernel
theorem dL_law_715 : decode code 715 = .ok (.aload_n 0, 1) := by decide +kernel
theorem dL_law_716 : decode code 716 = .ok (.iload_n 3, 1) := by decide +kernel
theorem dL_law_717 : decode code 717 = .ok (.iconst 4, 1) := by decide +kernel
theorem dL_law_718 : decode code 718 = .ok (.iadd, 1) := by decide +kernel
theorem dL_law_719 : decode code 719 = .ok (.iaload, 1) := by decide +kernel
theorem dL_law_720 : decode code 720 = .ok (.invokevirtual 78, 3) := by decide +kernel
theorem dL_law_723 : decode code 723 = .ok (.if_icmp .eq 693, 3) := by decide +kernel
theorem dL_law_726 : decode code 726 = .ok (.iconst 0, 1) := by decide +kernel
theorem dL_law_727 : decode code 727 = .ok (.ireturn, 1) := by decide +kernel
theorem dL_law_728 : decode code 728 = .ok (.aload_n 1, 1) := by decide +kernel
theorem dL_law_729 : decode code 729 = .ok (.aload_n 0, 1) := by decide +kernel
theorem dL_law_730 : decode code 730 = .ok (.iload_n 3, 1) := by decide +kernel
theorem dL_law_731 : decode code 731 = .ok (.iconst 1, 1) := by decide +kernel
theorem dL_law_732 : decode code 732 = .ok (.iadd, 1) := by decide +kernel
theorem dL_law_733 : decode code 733 = .ok (.iaload, 1) := by decide +kernel
theorem dL_law_734 : decode code 734 = .ok (.invokevirtual 79, 3) := by decide +kernel
theorem dL_law_737 : decode code 737 = .ok (.aload_n 2, 1) := by decide +kernel
theorem dL_law_738 : decode code 738 = .ok (.aload_n 0, 1) := by decide +kernel
theorem dL_law_739 : decode code 739 = .ok (.iload_n 3, 1) := by decide +kernel
theorem dL_law_740 : decode code 740 = .ok (.iconst 1, 1) := by decide +kernel
theorem dL_law_741 : decode code 741 = .ok (.iadd, 1) := by decide +kernel
theorem dL_law_742 : decode code 742 = .ok (.iaload, 1) := by decide +kernel
theorem dL_law_743 : decode code 743 = .ok (.invokevirtual 82, 3) := by decide +kernel
theorem dL_law_746 : decode code 746 = .ok (.if_icmp .eq 670, 3) := by decide +kernel
theorem dL_law_749 : decode code 749 = .ok (.iconst 0, 1) := by decide +kernel
theorem dL_law_750 : decode code 750 = .ok (.ireturn, 1) := by decide +kernel
theorem dL_law_751 : decode code 751 = .ok (.aload_n 1, 1) := by decide +kernel
theorem dL_law_752 : decode code 752 = .ok (.aload_n 0, 1) := by decide +kernel
theorem dL_law_753 : decode code 753 = .ok (.iload_n 3, 1) := by decide +kernel
theorem dL_law_754 : decode code 754 = .ok (.iconst 1, 1) := by decide +kernel
theorem dL_law_755 : decode code 755 = .ok (.iadd, 1) := by decide +kernel
theorem dL_law_756 : decode code 756 = .ok (.iaload, 1) := by decide +kernel
theorem dL_law_757 : decode code 757 = .ok (.aload_n 0, 1) := by decide +kernel
theorem dL_law_758 : decode code 758 = .ok (.iload_n 3, 1) := by decide +kernel
theorem dL_law_759 : decode code 759 = .ok (.iconst 2, 1) := by decide +kernel
theorem dL_law_760 : decode code 760 = .ok (.iadd, 1) := by decide +kernel
theorem dL_law_761 : decode code 761 = .ok (.iaload, 1) := by decide +kernel
theorem dL_law_762 : decode code 762 = .ok (.aload_n 0, 1) := by decide +kernel
theorem dL_law_763 : decode code 763 = .ok (.iload_n 3, 1) := by decide +kernel
theorem dL_law_764 : decode code 764 = .ok (.iconst 3, 1) := by decide +kernel
theorem dL_law_765 : decode code 765 = .ok (.iadd, 1) := by decide +kernel
theorem dL_law_766 : decode code 766 = .ok (.iaload, 1) := by decide +kernel
theorem dL_law_767 : decode code 767 = .ok (.invokevirtual 83, 3) := by decide +kernel
theorem dL_law_770 : decode code 770 = .ok (.aload_n 2, 1) := by decide +kernel
theorem dL_law_771 : decode code 771 = .ok (.aload_n 0, 1) := by decide +kernel
theorem dL_law_772 : decode code 772 = .ok (.iload_n 3, 1) := by decide +kernel
theorem dL_law_773 : decode code 773 = .ok (.iconst 1, 1) := by decide +kernel
theorem dL_law_774 : decode code 774 = .ok (.iadd, 1) := by decide +kernel
theorem dL_law_775 : decode code 775 = .ok (.iaload, 1) := by decide +kernel
theorem dL_law_776 : decode code 776 = .ok (.aload_n 0, 1) := by decide +kernel
theorem dL_law_777 : decode code 777 = .ok (.iload_n 3, 1) := by decide +kernel
theorem dL_law_778 : decode code 778 = .ok (.iconst 2, 1) := by decide +kernel
theorem dL_law_779 : decode code 779 = .ok (.iadd, 1) := by decide +kernel
theorem dL_law_780 : decode code 780 = .ok (.iaload, 1) := by decide +kernel
theorem dL_law_781 : decode code 781 = .ok (.aload_n 0, 1) := by decide +kernel
theorem dL_law_782 : decode code 782 = .ok (.iload_n 3, 1) := by decide +kernel
theorem dL_law_783 : decode code 783 = .ok (.iconst 3, 1) := by decide +kernel
theorem dL_law_784 : decode code 784 = .ok (.iadd, 1) := by decide +kernel
theorem dL_law_785 : decode code 785 = .ok (.iaload, 1) := by decide +kernel
theorem dL_law_786 : decode code 786 = .ok (.invokevirtual 86, 3) := by decide +kernel
theorem dL_law_789 : decode code 789 = .ok (.if_icmp .eq 627, 3) := by decide +kernel
theorem dL_law_792 : decode code 792 = .ok (.iconst 0, 1) := by decide +kernel
theorem dL_law_793 : decode code 793 = .ok (.ireturn, 1) := by decide +kernel
theorem dL_law_794 : decode code 794 = .ok (.aload_n 1, 1) := by decide +kernel
theorem dL_law_795 : decode code 795 = .ok (.aload_n 0, 1) := by decide +kernel
theorem dL_law_796 : decode code 796 = .ok (.iload_n 3, 1) := by decide +kernel
theorem dL_law_797 : decode code 797 = .ok (.iconst 1, 1) := by decide +kernel
theorem dL_law_798 : decode code 798 = .ok (.iadd, 1) := by decide +kernel
theorem dL_law_799 : decode code 799 = .ok (.iaload, 1) := by decide +kernel
theorem dL_law_800 : decode code 800 = .ok (.invokevirtual 87, 3) := by decide +kernel
theorem dL_law_803 : decode code 803 = .ok (.aload_n 2, 1) := by decide +kernel
theorem dL_law_804 : decode code 804 = .ok (.aload_n 0, 1) := by decide +kernel
theorem dL_law_805 : decode code 805 = .ok (.iload_n 3, 1) := by decide +kernel
theorem dL_law_806 : decode code 806 = .ok (.iconst 1, 1) := by decide +kernel
theorem dL_law_807 : decode code 807 = .ok (.iadd, 1) := by decide +kernel
theorem dL_law_808 : decode code 808 = .ok (.iaload, 1) := by decide +kernel
theorem dL_law_809 : decode code 809 = .ok (.invokevirtual 90, 3) := by decide +kernel
theorem dL_law_812 : decode code 812 = .ok (.if_icmp .eq 604, 3) := by decide +kernel
theorem dL_law_815 : decode code 815 = .ok (.iconst 0, 1) := by decide +kernel
theorem dL_law_816 : decode code 816 = .ok (.ireturn, 1) := by decide +kernel
theorem dL_law_817 : decode code 817 = .ok (.aload_n 1, 1) := by decide +kernel
theorem dL_law_818 : decode code 818 = .ok (.aload_n 0, 1) := by decide +kernel
theorem dL_law_819 : decode code 819 = .ok (.iload_n 3, 1) := by decide +kernel
theorem dL_law_820 : decode code 820 = .ok (.iconst 1, 1) := by decide +kernel
theorem dL_law_821 : decode code 821 = .ok (.iadd, 1) := by decide +kernel
theorem dL_law_822 : decode code 822 = .ok (.iaload, 1) := by decide +kernel
theorem dL_law_823 : decode code 823 = .ok (.aload_n 0, 1) := by decide +kernel
theorem dL_law_824 : decode code 824 = .ok (.iload_n 3, 1) := by decide +kernel
theorem dL_law_825 : decode code 825 = .ok (.iconst 2, 1) := by decide +kernel
theorem dL_law_826 : decode code 826 = .ok (.iadd, 1) := by decide +kernel
theorem dL_law_827 : decode code 827 = .ok (.iaload, 1) := by decide +kernel
theorem dL_law_828 : decode code 828 = .ok (.invokevirtual 91, 3) := by decide +kernel
theorem dL_law_831 : decode code 831 = .ok (.aload_n 2, 1) := by decide +kernel
theorem dL_law_832 : decode code 832 = .ok (.aload_n 0, 1) := by decide +kernel
theorem dL_law_833 : decode code 833 = .ok (.iload_n 3, 1) := by decide +kernel
theorem dL_law_834 : decode code 834 = .ok (.iconst 1, 1) := by decide +kernel
theorem dL_law_835 : decode code 835 = .ok (.iadd, 1) := by decide +kernel
theorem dL_law_836 : decode code 836 = .ok (.iaload, 1) := by decide +kernel
theorem dL_law_837 : decode code 837 = .ok (.aload_n 0, 1) := by decide +kernel
theorem dL_law_838 : decode code 838 = .ok (.iload_n 3, 1) := by decide +kernel
theorem dL_law_839 : decode code 839 = .ok (.iconst 2, 1) := by decide +kernel
theorem dL_law_840 : decode code 840 = .ok (.iadd, 1) := by decide +kernel
theorem dL_law_841 : decode code 841 = .ok (.iaload, 1) := by decide +kernel
theorem dL_law_842 : decode code 842 = .ok (.invokevirtual 94, 3) := by decide +kernel
theorem dL_law_845 : decode code 845 = .ok (.if_icmp .eq 571, 3) := by decide +kernel
theorem dL_law_848 : decode code 848 = .ok (.iconst 0, 1) := by decide +kernel
theorem dL_law_849 : decode code 849 = .ok (.ireturn, 1) := by decide +kernel
theorem dL_law_850 : decode code 850 = .ok (.aload_n 1, 1) := by decide +kernel
theorem dL_law_851 : decode code 851 = .ok (.aload_n 0, 1) := by decide +kernel
theorem dL_law_852 : decode code 852 = .ok (.iload_n 3, 1) := by decide +kernel
theorem dL_law_853 : decode code 853 = .ok (.iconst 1, 1) := by decide +kernel
theorem dL_law_854 : decode code 854 = .ok (.iadd, 1) := by decide +kernel
theorem dL_law_855 : decode code 855 = .ok (.iaload, 1) := by decide +kernel
theorem dL_law_856 : decode code 856 = .ok (.aload_n 0, 1) := by decide +kernel
theorem dL_law_857 : decode code 857 = .ok (.iload_n 3, 1) := by decide +kernel
theorem dL_law_858 : decode code 858 = .ok (.iconst 2, 1) := by decide +kernel
theorem dL_law_859 : decode code 859 = .ok (.iadd, 1) := by decide +kernel
theorem dL_law_860 : decode code 860 = .ok (.iaload, 1) := by decide +kernel
theorem dL_law_861 : decode code 861 = .ok (.aload_n 0, 1) := by decide +kernel
theorem dL_law_862 : decode code 862 = .ok (.iload_n 3, 1) := by decide +kernel
theorem dL_law_863 : decode code 863 = .ok (.iconst 3, 1) := by decide +kernel
theorem dL_law_864 : decode code 864 = .ok (.iadd, 1) := by decide +kernel
theorem dL_law_865 : decode code 865 = .ok (.iaload, 1) := by decide +kernel
theorem dL_law_866 : decode code 866 = .ok (.invokevirtual 95, 3) := by decide +kernel
theorem dL_law_869 : decode code 869 = .ok (.aload_n 2, 1) := by decide +kernel
theorem dL_law_870 : decode code 870 = .ok (.aload_n 0, 1) := by decide +kernel
theorem dL_law_871 : decode code 871 = .ok (.iload_n 3, 1) := by decide +kernel
theorem dL_law_872 : decode code 872 = .ok (.iconst 1, 1) := by decide +kernel
theorem dL_law_873 : decode code 873 = .ok (.iadd, 1) := by decide +kernel
theorem dL_law_874 : decode code 874 = .ok (.iaload, 1) := by decide +kernel
theorem dL_law_875 : decode code 875 = .ok (.aload_n 0, 1) := by decide +kernel
theorem dL_law_876 : decode code 876 = .ok (.iload_n 3, 1) := by decide +kernel
theorem dL_law_877 : decode code 877 = .ok (.iconst 2, 1) := by decide +kernel
theorem dL_law_878 : decode code 878 = .ok (.iadd, 1) := by decide +kernel
theorem dL_law_879 : decode code 879 = .ok (.iaload, 1) := by decide +kernel
theorem dL_law_880 : decode code 880 = .ok (.aload_n 0, 1) := by decide +kernel
theorem dL_law_881 : decode code 881 = .ok (.iload_n 3, 1) := by decide +kernel
theorem dL_law_882 : decode code 882 = .ok (.iconst 3, 1) := by decide +kernel
theorem dL_law_883 : decode code 883 = .ok (.iadd, 1) := by decide +kernel
theorem dL_law_884 : decode code 884 = .ok (.iaload, 1) := by decide +kernel
theorem dL_law_885 : decode code 885 = .ok (.invokevirtual 98, 3) := by decide +kernel
theorem dL_law_888 : decode code 888 = .ok (.if_icmp .eq 528, 3) := by decide +kernel
theorem dL_law_891 : decode code 891 = .ok (.iconst 0, 1) := by decide +kernel
theorem dL_law_892 : decode code 892 = .ok (.ireturn, 1) := by decide +kernel
theorem dL_law_893 : decode code 893 = .ok (.aload_n 1, 1) := by decide +kernel
theorem dL_law_894 : decode code 894 = .ok (.aload_n 0, 1) := by decide +kernel
theorem dL_law_895 : decode code 895 = .ok (.iload_n 3, 1) := by decide +kernel
theorem dL_law_896 : decode code 896 = .ok (.iconst 1, 1) := by decide +kernel
theorem dL_law_897 : decode code 897 = .ok (.iadd, 1) := by decide +kernel
theorem dL_law_898 : decode code 898 = .ok (.iaload, 1) := by decide +kernel
theorem dL_law_899 : decode code 899 = .ok (.invokevirtual 99, 3) := by decide +kernel
theorem dL_law_902 : decode code 902 = .ok (.aload_n 2, 1) := by decide +kernel
theorem dL_law_903 : decode code 903 = .ok (.aload_n 0, 1) := by decide +kernel
theorem dL_law_904 : decode code 904 = .ok (.iload_n 3, 1) := by decide +kernel
theorem dL_law_905 : decode code 905 = .ok (.iconst 1, 1) := by decide +kernel
theorem dL_law_906 : decode code 906 = .ok (.iadd, 1) := by decide +kernel
theorem dL_law_907 : decode code 907 = .ok (.iaload, 1) := by decide +kernel
theorem dL_law_908 : decode code 908 = .ok (.invokevirtual 102, 3) := by decide +kernel
theorem dL_law_911 : decode code 911 = .ok (.if_icmp .eq 505, 3) := by decide +kernel
theorem dL_law_914 : decode code 914 = .ok (.iconst 0, 1) := by decide +kernel
theorem dL_law_915 : decode code 915 = .ok (.ireturn, 1) := by decide +kernel
