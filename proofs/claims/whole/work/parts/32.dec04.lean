theorem dX10_init_691 : decode cX10_init 691 = .ok (.iastore, 1) := by decide +kernel
theorem dX10_init_692 : decode cX10_init 692 = .ok (.dup, 1) := by decide +kernel
theorem dX10_init_693 : decode cX10_init 693 = .ok (.bipush 99, 2) := by decide +kernel
theorem dX10_init_695 : decode cX10_init 695 = .ok (.sipush 8738, 3) := by decide +kernel
theorem dX10_init_698 : decode cX10_init 698 = .ok (.iastore, 1) := by decide +kernel
theorem dX10_init_699 : decode cX10_init 699 = .ok (.dup, 1) := by decide +kernel
theorem dX10_init_700 : decode cX10_init 700 = .ok (.bipush 100, 2) := by decide +kernel
theorem dX10_init_702 : decode cX10_init 702 = .ok (.sipush 4386, 3) := by decide +kernel
theorem dX10_init_705 : decode cX10_init 705 = .ok (.iastore, 1) := by decide +kernel
theorem dX10_init_706 : decode cX10_init 706 = .ok (.dup, 1) := by decide +kernel
theorem dX10_init_707 : decode cX10_init 707 = .ok (.bipush 101, 2) := by decide +kernel
theorem dX10_init_709 : decode cX10_init 709 = .ok (.bipush 34, 2) := by decide +kernel
theorem dX10_init_711 : decode cX10_init 711 = .ok (.iastore, 1) := by decide +kernel
theorem dX10_init_712 : decode cX10_init 712 = .ok (.dup, 1) := by decide +kernel
theorem dX10_init_713 : decode cX10_init 713 = .ok (.bipush 102, 2) := by decide +kernel
theorem dX10_init_715 : decode cX10_init 715 = .ok (.sipush 4132, 3) := by decide +kernel
theorem dX10_init_718 : decode cX10_init 718 = .ok (.iastore, 1) := by decide +kernel
theorem dX10_init_719 : decode cX10_init 719 = .ok (.dup, 1) := by decide +kernel
theorem dX10_init_720 : decode cX10_init 720 = .ok (.bipush 103, 2) := by decide +kernel
theorem dX10_init_722 : decode cX10_init 722 = .ok (.sipush 2338, 3) := by decide +kernel
theorem dX10_init_725 : decode cX10_init 725 = .ok (.iastore, 1) := by decide +kernel
theorem dX10_init_726 : decode cX10_init 726 = .ok (.dup, 1) := by decide +kernel
theorem dX10_init_727 : decode cX10_init 727 = .ok (.bipush 104, 2) := by decide +kernel
theorem dX10_init_729 : decode cX10_init 729 = .ok (.sipush 4674, 3) := by decide +kernel
theorem dX10_init_732 : decode cX10_init 732 = .ok (.iastore, 1) := by decide +kernel
theorem dX10_init_733 : decode cX10_init 733 = .ok (.dup, 1) := by decide +kernel
theorem dX10_init_734 : decode cX10_init 734 = .ok (.bipush 105, 2) := by decide +kernel
theorem dX10_init_736 : decode cX10_init 736 = .ok (.sipush 8258, 3) := by decide +kernel
theorem dX10_init_739 : decode cX10_init 739 = .ok (.iastore, 1) := by decide +kernel
theorem dX10_init_740 : decode cX10_init 740 = .ok (.dup, 1) := by decide +kernel
theorem dX10_init_741 : decode cX10_init 741 = .ok (.bipush 106, 2) := by decide +kernel
theorem dX10_init_743 : decode cX10_init 743 = .ok (.sipush 9282, 3) := by decide +kernel
theorem dX10_init_746 : decode cX10_init 746 = .ok (.iastore, 1) := by decide +kernel
theorem dX10_init_747 : decode cX10_init 747 = .ok (.dup, 1) := by decide +kernel
theorem dX10_init_748 : decode cX10_init 748 = .ok (.bipush 107, 2) := by decide +kernel
theorem dX10_init_750 : decode cX10_init 750 = .ok (.sipush 8770, 3) := by decide +kernel
theorem dX10_init_753 : decode cX10_init 753 = .ok (.iastore, 1) := by decide +kernel
theorem dX10_init_754 : decode cX10_init 754 = .ok (.dup, 1) := by decide +kernel
theorem dX10_init_755 : decode cX10_init 755 = .ok (.bipush 108, 2) := by decide +kernel
theorem dX10_init_757 : decode cX10_init 757 = .ok (.sipush 4162, 3) := by decide +kernel
theorem dX10_init_760 : decode cX10_init 760 = .ok (.iastore, 1) := by decide +kernel
theorem dX10_init_761 : decode cX10_init 761 = .ok (.dup, 1) := by decide +kernel
theorem dX10_init_762 : decode cX10_init 762 = .ok (.bipush 109, 2) := by decide +kernel
theorem dX10_init_764 : decode cX10_init 764 = .ok (.bipush 66, 2) := by decide +kernel
theorem dX10_init_766 : decode cX10_init 766 = .ok (.iastore, 1) := by decide +kernel
theorem dX10_init_767 : decode cX10_init 767 = .ok (.dup, 1) := by decide +kernel
theorem dX10_init_768 : decode cX10_init 768 = .ok (.bipush 110, 2) := by decide +kernel
theorem dX10_init_770 : decode cX10_init 770 = .ok (.sipush 1090, 3) := by decide +kernel
theorem dX10_init_773 : decode cX10_init 773 = .ok (.iastore, 1) := by decide +kernel
theorem dX10_init_774 : decode cX10_init 774 = .ok (.dup, 1) := by decide +kernel
theorem dX10_init_775 : decode cX10_init 775 = .ok (.bipush 111, 2) := by decide +kernel
theorem dX10_init_777 : decode cX10_init 777 = .ok (.sipush 2114, 3) := by decide +kernel
theorem dX10_init_780 : decode cX10_init 780 = .ok (.iastore, 1) := by decide +kernel
theorem dX10_init_781 : decode cX10_init 781 = .ok (.dup, 1) := by decide +kernel
theorem dX10_init_782 : decode cX10_init 782 = .ok (.bipush 112, 2) := by decide +kernel
theorem dX10_init_784 : decode cX10_init 784 = .ok (.sipush 8226, 3) := by decide +kernel
theorem dX10_init_787 : decode cX10_init 787 = .ok (.iastore, 1) := by decide +kernel
theorem dX10_init_788 : decode cX10_init 788 = .ok (.dup, 1) := by decide +kernel
theorem dX10_init_789 : decode cX10_init 789 = .ok (.bipush 113, 2) := by decide +kernel
theorem dX10_init_791 : decode cX10_init 791 = .ok (.sipush 8322, 3) := by decide +kernel
theorem dX10_init_794 : decode cX10_init 794 = .ok (.iastore, 1) := by decide +kernel
theorem dX10_init_795 : decode cX10_init 795 = .ok (.dup, 1) := by decide +kernel
theorem dX10_init_796 : decode cX10_init 796 = .ok (.bipush 114, 2) := by decide +kernel
theorem dX10_init_798 : decode cX10_init 798 = .ok (.sipush 9346, 3) := by decide +kernel
theorem dX10_init_801 : decode cX10_init 801 = .ok (.iastore, 1) := by decide +kernel
theorem dX10_init_802 : decode cX10_init 802 = .ok (.dup, 1) := by decide +kernel
theorem dX10_init_803 : decode cX10_init 803 = .ok (.bipush 115, 2) := by decide +kernel
theorem dX10_init_805 : decode cX10_init 805 = .ok (.sipush 2082, 3) := by decide +kernel
theorem dX10_init_808 : decode cX10_init 808 = .ok (.iastore, 1) := by decide +kernel
theorem dX10_init_809 : decode cX10_init 809 = .ok (.dup, 1) := by decide +kernel
theorem dX10_init_810 : decode cX10_init 810 = .ok (.bipush 116, 2) := by decide +kernel
theorem dX10_init_812 : decode cX10_init 812 = .ok (.sipush 4226, 3) := by decide +kernel
theorem dX10_init_815 : decode cX10_init 815 = .ok (.iastore, 1) := by decide +kernel
theorem dX10_init_816 : decode cX10_init 816 = .ok (.dup, 1) := by decide +kernel
theorem dX10_init_817 : decode cX10_init 817 = .ok (.bipush 117, 2) := by decide +kernel
theorem dX10_init_819 : decode cX10_init 819 = .ok (.sipush 130, 3) := by decide +kernel
theorem dX10_init_822 : decode cX10_init 822 = .ok (.iastore, 1) := by decide +kernel
theorem dX10_init_823 : decode cX10_init 823 = .ok (.dup, 1) := by decide +kernel
theorem dX10_init_824 : decode cX10_init 824 = .ok (.bipush 118, 2) := by decide +kernel
theorem dX10_init_826 : decode cX10_init 826 = .ok (.sipush 1154, 3) := by decide +kernel
theorem dX10_init_829 : decode cX10_init 829 = .ok (.iastore, 1) := by decide +kernel
theorem dX10_init_830 : decode cX10_init 830 = .ok (.dup, 1) := by decide +kernel
theorem dX10_init_831 : decode cX10_init 831 = .ok (.bipush 119, 2) := by decide +kernel
theorem dX10_init_833 : decode cX10_init 833 = .ok (.sipush 2178, 3) := by decide +kernel
theorem dX10_init_836 : decode cX10_init 836 = .ok (.iastore, 1) := by decide +kernel
theorem dX10_init_837 : decode cX10_init 837 = .ok (.dup, 1) := by decide +kernel
theorem dX10_init_838 : decode cX10_init 838 = .ok (.bipush 120, 2) := by decide +kernel
theorem dX10_init_840 : decode cX10_init 840 = .ok (.sipush 4610, 3) := by decide +kernel
theorem dX10_init_843 : decode cX10_init 843 = .ok (.iastore, 1) := by decide +kernel
theorem dX10_init_844 : decode cX10_init 844 = .ok (.dup, 1) := by decide +kernel
theorem dX10_init_845 : decode cX10_init 845 = .ok (.bipush 121, 2) := by decide +kernel
theorem dX10_init_847 : decode cX10_init 847 = .ok (.sipush 584, 3) := by decide +kernel
theorem dX10_init_850 : decode cX10_init 850 = .ok (.iastore, 1) := by decide +kernel
theorem dX10_init_851 : decode cX10_init 851 = .ok (.dup, 1) := by decide +kernel
theorem dX10_init_852 : decode cX10_init 852 = .ok (.bipush 122, 2) := by decide +kernel
theorem dX10_init_854 : decode cX10_init 854 = .ok (.sipush 9218, 3) := by decide +kernel
theorem dX10_init_857 : decode cX10_init 857 = .ok (.iastore, 1) := by decide +kernel
theorem dX10_init_858 : decode cX10_init 858 = .ok (.dup, 1) := by decide +kernel
theorem dX10_init_859 : decode cX10_init 859 = .ok (.bipush 123, 2) := by decide +kernel
theorem dX10_init_861 : decode cX10_init 861 = .ok (.sipush 8706, 3) := by decide +kernel
